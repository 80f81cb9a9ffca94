theorem dX1_init_0 : decode cX1_init 0 = .ok (.aload_n 0, 1) := by decide +kernel
theorem dX1_init_1 : decode cX1_init 1 = .ok (.invokespecial 3, 3) := by decide +kernel
theorem dX1_init_4 : decode cX1_init 4 = .ok (.aload_n 0, 1) := by decide +kernel
theorem dX1_init_5 : decode cX1_init 5 = .ok (.iconst 3, 1) := by decide +kernel
theorem dX1_init_6 : decode cX1_init 6 = .ok (.newarray .int, 2) := by decide +kernel
theorem dX1_init_8 : decode cX1_init 8 = .ok (.putfield 9, 3) := by decide +kernel
theorem dX1_init_11 : decode cX1_init 11 = .ok (.return_, 1) := by decide +kernel
theorem dX1_clear_0 : decode cX1_clear 0 = .ok (.aload_n 0, 1) := by decide +kernel
theorem dX1_clear_1 : decode cX1_clear 1 = .ok (.iconst 0, 1) := by decide +kernel
theorem dX1_clear_2 : decode cX1_clear 2 = .ok (.putfield 15, 3) := by decide +kernel
theorem dX1_clear_5 : decode cX1_clear 5 = .ok (.aload_n 0, 1) := by decide +kernel
theorem dX1_clear_6 : decode cX1_clear 6 = .ok (.bipush 60, 2) := by decide +kernel
theorem dX1_clear_8 : decode cX1_clear 8 = .ok (.putfield 19, 3) := by decide +kernel
theorem dX1_clear_11 : decode cX1_clear 11 = .ok (.aload_n 0, 1) := by decide +kernel
theorem dX1_clear_12 : decode cX1_clear 12 = .ok (.iconst 0, 1) := by decide +kernel
theorem dX1_clear_13 : decode cX1_clear 13 = .ok (.putfield 22, 3) := by decide +kernel
theorem dX1_clear_16 : decode cX1_clear 16 = .ok (.aload_n 0, 1) := by decide +kernel
theorem dX1_clear_17 : decode cX1_clear 17 = .ok (.iconst 0, 1) := by decide +kernel
theorem dX1_clear_18 : decode cX1_clear 18 = .ok (.putfield 25, 3) := by decide +kernel
theorem dX1_clear_21 : decode cX1_clear 21 = .ok (.return_, 1) := by decide +kernel
theorem dX1_become_0 : decode cX1_become 0 = .ok (.aload_n 0, 1) := by decide +kernel
theorem dX1_become_1 : decode cX1_become 1 = .ok (.aload_n 1, 1) := by decide +kernel
theorem dX1_become_2 : decode cX1_become 2 = .ok (.getfield 15, 3) := by decide +kernel
theorem dX1_become_5 : decode cX1_become 5 = .ok (.putfield 15, 3) := by decide +kernel
theorem dX1_become_8 : decode cX1_become 8 = .ok (.aload_n 0, 1) := by decide +kernel
theorem dX1_become_9 : decode cX1_become 9 = .ok (.aload_n 1, 1) := by decide +kernel
theorem dX1_become_10 : decode cX1_become 10 = .ok (.getfield 19, 3) := by decide +kernel
theorem dX1_become_13 : decode cX1_become 13 = .ok (.putfield 19, 3) := by decide +kernel
theorem dX1_become_16 : decode cX1_become 16 = .ok (.aload_n 0, 1) := by decide +kernel
theorem dX1_become_17 : decode cX1_become 17 = .ok (.aload_n 1, 1) := by decide +kernel
theorem dX1_become_18 : decode cX1_become 18 = .ok (.getfield 22, 3) := by decide +kernel
theorem dX1_become_21 : decode cX1_become 21 = .ok (.putfield 22, 3) := by decide +kernel
theorem dX1_become_24 : decode cX1_become 24 = .ok (.aload_n 0, 1) := by decide +kernel
theorem dX1_become_25 : decode cX1_become 25 = .ok (.aload_n 1, 1) := by decide +kernel
theorem dX1_become_26 : decode cX1_become 26 = .ok (.getfield 25, 3) := by decide +kernel
theorem dX1_become_29 : decode cX1_become 29 = .ok (.putfield 25, 3) := by decide +kernel
theorem dX1_become_32 : decode cX1_become 32 = .ok (.iconst 0, 1) := by decide +kernel
theorem dX1_become_33 : decode cX1_become 33 = .ok (.istore_n 2, 1) := by decide +kernel
theorem dX1_become_34 : decode cX1_become 34 = .ok (.iload_n 2, 1) := by decide +kernel
theorem dX1_become_35 : decode cX1_become 35 = .ok (.iconst 3, 1) := by decide +kernel
theorem dX1_become_36 : decode cX1_become 36 = .ok (.if_icmp .ge 21, 3) := by decide +kernel
theorem dX1_become_39 : decode cX1_become 39 = .ok (.aload_n 0, 1) := by decide +kernel
theorem dX1_become_40 : decode cX1_become 40 = .ok (.getfield 9, 3) := by decide +kernel
theorem dX1_become_43 : decode cX1_become 43 = .ok (.iload_n 2, 1) := by decide +kernel
theorem dX1_become_44 : decode cX1_become 44 = .ok (.aload_n 1, 1) := by decide +kernel
theorem dX1_become_45 : decode cX1_become 45 = .ok (.getfield 9, 3) := by decide +kernel
theorem dX1_become_48 : decode cX1_become 48 = .ok (.iload_n 2, 1) := by decide +kernel
theorem dX1_become_49 : decode cX1_become 49 = .ok (.iaload, 1) := by decide +kernel
theorem dX1_become_50 : decode cX1_become 50 = .ok (.iastore, 1) := by decide +kernel
theorem dX1_become_51 : decode cX1_become 51 = .ok (.iinc 2 1, 3) := by decide +kernel
theorem dX1_become_54 : decode cX1_become 54 = .ok (.goto (-20), 3) := by decide +kernel
theorem dX1_become_57 : decode cX1_become 57 = .ok (.return_, 1) := by decide +kernel
theorem dX1_presentDay_0 : decode cX1_presentDay 0 = .ok (.aload_n 0, 1) := by decide +kernel
theorem dX1_presentDay_1 : decode cX1_presentDay 1 = .ok (.getfield 15, 3) := by decide +kernel
theorem dX1_presentDay_4 : decode cX1_presentDay 4 = .ok (.bipush 24, 2) := by decide +kernel
theorem dX1_presentDay_6 : decode cX1_presentDay 6 = .ok (.idiv, 1) := by decide +kernel
theorem dX1_presentDay_7 : decode cX1_presentDay 7 = .ok (.ireturn, 1) := by decide +kernel
theorem dX1_hasHoursLeft_0 : decode cX1_hasHoursLeft 0 = .ok (.iload_n 1, 1) := by decide +kernel
theorem dX1_hasHoursLeft_1 : decode cX1_hasHoursLeft 1 = .ok (.sipush 2000, 3) := by decide +kernel
theorem dX1_hasHoursLeft_4 : decode cX1_hasHoursLeft 4 = .ok (.aload_n 0, 1) := by decide +kernel
theorem dX1_hasHoursLeft_5 : decode cX1_hasHoursLeft 5 = .ok (.getfield 15, 3) := by decide +kernel
theorem dX1_hasHoursLeft_8 : decode cX1_hasHoursLeft 8 = .ok (.isub, 1) := by decide +kernel
theorem dX1_hasHoursLeft_9 : decode cX1_hasHoursLeft 9 = .ok (.if_icmp .gt 7, 3) := by decide +kernel
theorem dX1_hasHoursLeft_12 : decode cX1_hasHoursLeft 12 = .ok (.iconst 1, 1) := by decide +kernel
theorem dX1_hasHoursLeft_13 : decode cX1_hasHoursLeft 13 = .ok (.goto 4, 3) := by decide +kernel
theorem dX1_hasHoursLeft_16 : decode cX1_hasHoursLeft 16 = .ok (.iconst 0, 1) := by decide +kernel
theorem dX1_hasHoursLeft_17 : decode cX1_hasHoursLeft 17 = .ok (.ireturn, 1) := by decide +kernel
theorem dX1_hasRoomForMonsoon_0 : decode cX1_hasRoomForMonsoon 0 = .ok (.aload_n 0, 1) := by decide +kernel
theorem dX1_hasRoomForMonsoon_1 : decode cX1_hasRoomForMonsoon 1 = .ok (.getfield 25, 3) := by decide +kernel
theorem dX1_hasRoomForMonsoon_4 : decode cX1_hasRoomForMonsoon 4 = .ok (.iconst 3, 1) := by decide +kernel
theorem dX1_hasRoomForMonsoon_5 : decode cX1_hasRoomForMonsoon 5 = .ok (.if_icmp .ge 7, 3) := by decide +kernel
theorem dX1_hasRoomForMonsoon_8 : decode cX1_hasRoomForMonsoon 8 = .ok (.iconst 1, 1) := by decide +kernel
theorem dX1_hasRoomForMonsoon_9 : decode cX1_hasRoomForMonsoon 9 = .ok (.goto 4, 3) := by decide +kernel
theorem dX1_hasRoomForMonsoon_12 : decode cX1_hasRoomForMonsoon 12 = .ok (.iconst 0, 1) := by decide +kernel
theorem dX1_hasRoomForMonsoon_13 : decode cX1_hasRoomForMonsoon 13 = .ok (.ireturn, 1) := by decide +kernel
theorem dX1_addMonsoon_0 : decode cX1_addMonsoon 0 = .ok (.aload_n 0, 1) := by decide +kernel
theorem dX1_addMonsoon_1 : decode cX1_addMonsoon 1 = .ok (.getfield 25, 3) := by decide +kernel
theorem dX1_addMonsoon_4 : decode cX1_addMonsoon 4 = .ok (.ifCond .lt 31, 3) := by decide +kernel
theorem dX1_addMonsoon_7 : decode cX1_addMonsoon 7 = .ok (.aload_n 0, 1) := by decide +kernel
theorem dX1_addMonsoon_8 : decode cX1_addMonsoon 8 = .ok (.getfield 25, 3) := by decide +kernel
theorem dX1_addMonsoon_11 : decode cX1_addMonsoon 11 = .ok (.iconst 3, 1) := by decide +kernel
theorem dX1_addMonsoon_12 : decode cX1_addMonsoon 12 = .ok (.if_icmp .ge 23, 3) := by decide +kernel
theorem dX1_addMonsoon_15 : decode cX1_addMonsoon 15 = .ok (.aload_n 0, 1) := by decide +kernel
theorem dX1_addMonsoon_16 : decode cX1_addMonsoon 16 = .ok (.getfield 9, 3) := by decide +kernel
theorem dX1_addMonsoon_19 : decode cX1_addMonsoon 19 = .ok (.aload_n 0, 1) := by decide +kernel
theorem dX1_addMonsoon_20 : decode cX1_addMonsoon 20 = .ok (.getfield 25, 3) := by decide +kernel
theorem dX1_addMonsoon_23 : decode cX1_addMonsoon 23 = .ok (.iload_n 1, 1) := by decide +kernel
theorem dX1_addMonsoon_24 : decode cX1_addMonsoon 24 = .ok (.iastore, 1) := by decide +kernel
theorem dX1_addMonsoon_25 : decode cX1_addMonsoon 25 = .ok (.aload_n 0, 1) := by decide +kernel
theorem dX1_addMonsoon_26 : decode cX1_addMonsoon 26 = .ok (.dup, 1) := by decide +kernel
theorem dX1_addMonsoon_27 : decode cX1_addMonsoon 27 = .ok (.getfield 25, 3) := by decide +kernel
theorem dX1_addMonsoon_30 : decode cX1_addMonsoon 30 = .ok (.iconst 1, 1) := by decide +kernel
theorem dX1_addMonsoon_31 : decode cX1_addMonsoon 31 = .ok (.iadd, 1) := by decide +kernel
theorem dX1_addMonsoon_32 : decode cX1_addMonsoon 32 = .ok (.putfield 25, 3) := by decide +kernel
theorem dX1_addMonsoon_35 : decode cX1_addMonsoon 35 = .ok (.return_, 1) := by decide +kernel
theorem dX1_hasMonsoonAt_0 : decode cX1_hasMonsoonAt 0 = .ok (.iconst 0, 1) := by decide +kernel
theorem dX1_hasMonsoonAt_1 : decode cX1_hasMonsoonAt 1 = .ok (.istore_n 2, 1) := by decide +kernel
theorem dX1_hasMonsoonAt_2 : decode cX1_hasMonsoonAt 2 = .ok (.iload_n 2, 1) := by decide +kernel
theorem dX1_hasMonsoonAt_3 : decode cX1_hasMonsoonAt 3 = .ok (.aload_n 0, 1) := by decide +kernel
theorem dX1_hasMonsoonAt_4 : decode cX1_hasMonsoonAt 4 = .ok (.getfield 25, 3) := by decide +kernel
theorem dX1_hasMonsoonAt_7 : decode cX1_hasMonsoonAt 7 = .ok (.if_icmp .ge 39, 3) := by decide +kernel
theorem dX1_hasMonsoonAt_10 : decode cX1_hasMonsoonAt 10 = .ok (.iload_n 2, 1) := by decide +kernel
theorem dX1_hasMonsoonAt_11 : decode cX1_hasMonsoonAt 11 = .ok (.iconst 3, 1) := by decide +kernel
theorem dX1_hasMonsoonAt_12 : decode cX1_hasMonsoonAt 12 = .ok (.if_icmp .ge 34, 3) := by decide +kernel
theorem dX1_hasMonsoonAt_15 : decode cX1_hasMonsoonAt 15 = .ok (.iload_n 1, 1) := by decide +kernel
theorem dX1_hasMonsoonAt_16 : decode cX1_hasMonsoonAt 16 = .ok (.aload_n 0, 1) := by decide +kernel
theorem dX1_hasMonsoonAt_17 : decode cX1_hasMonsoonAt 17 = .ok (.getfield 9, 3) := by decide +kernel
theorem dX1_hasMonsoonAt_20 : decode cX1_hasMonsoonAt 20 = .ok (.iload_n 2, 1) := by decide +kernel
theorem dX1_hasMonsoonAt_21 : decode cX1_hasMonsoonAt 21 = .ok (.iaload, 1) := by decide +kernel
theorem dX1_hasMonsoonAt_22 : decode cX1_hasMonsoonAt 22 = .ok (.bipush 24, 2) := by decide +kernel
theorem dX1_hasMonsoonAt_24 : decode cX1_hasMonsoonAt 24 = .ok (.imul, 1) := by decide +kernel
theorem dX1_hasMonsoonAt_25 : decode cX1_hasMonsoonAt 25 = .ok (.isub, 1) := by decide +kernel
theorem dX1_hasMonsoonAt_26 : decode cX1_hasMonsoonAt 26 = .ok (.istore_n 3, 1) := by decide +kernel
theorem dX1_hasMonsoonAt_27 : decode cX1_hasMonsoonAt 27 = .ok (.iload_n 3, 1) := by decide +kernel
theorem dX1_hasMonsoonAt_28 : decode cX1_hasMonsoonAt 28 = .ok (.ifCond .lt 12, 3) := by decide +kernel
theorem dX1_hasMonsoonAt_31 : decode cX1_hasMonsoonAt 31 = .ok (.iload_n 3, 1) := by decide +kernel
theorem dX1_hasMonsoonAt_32 : decode cX1_hasMonsoonAt 32 = .ok (.sipush 168, 3) := by decide +kernel
theorem dX1_hasMonsoonAt_35 : decode cX1_hasMonsoonAt 35 = .ok (.if_icmp .ge 5, 3) := by decide +kernel
theorem dX1_hasMonsoonAt_38 : decode cX1_hasMonsoonAt 38 = .ok (.iconst 1, 1) := by decide +kernel
theorem dX1_hasMonsoonAt_39 : decode cX1_hasMonsoonAt 39 = .ok (.ireturn, 1) := by decide +kernel
theorem dX1_hasMonsoonAt_40 : decode cX1_hasMonsoonAt 40 = .ok (.iinc 2 1, 3) := by decide +kernel
theorem dX1_hasMonsoonAt_43 : decode cX1_hasMonsoonAt 43 = .ok (.goto (-41), 3) := by decide +kernel
theorem dX1_hasMonsoonAt_46 : decode cX1_hasMonsoonAt 46 = .ok (.iconst 0, 1) := by decide +kernel
theorem dX1_hasMonsoonAt_47 : decode cX1_hasMonsoonAt 47 = .ok (.ireturn, 1) := by decide +kernel
theorem dX1_hoursToNextMonsoon_0 : decode cX1_hoursToNextMonsoon 0 = .ok (.iconst (-1), 1) := by decide +kernel
theorem dX1_hoursToNextMonsoon_1 : decode cX1_hoursToNextMonsoon 1 = .ok (.istore_n 1, 1) := by decide +kernel
theorem dX1_hoursToNextMonsoon_2 : decode cX1_hoursToNextMonsoon 2 = .ok (.iconst 0, 1) := by decide +kernel
theorem dX1_hoursToNextMonsoon_3 : decode cX1_hoursToNextMonsoon 3 = .ok (.istore_n 2, 1) := by decide +kernel
theorem dX1_hoursToNextMonsoon_4 : decode cX1_hoursToNextMonsoon 4 = .ok (.iload_n 2, 1) := by decide +kernel
theorem dX1_hoursToNextMonsoon_5 : decode cX1_hoursToNextMonsoon 5 = .ok (.aload_n 0, 1) := by decide +kernel
theorem dX1_hoursToNextMonsoon_6 : decode cX1_hoursToNextMonsoon 6 = .ok (.getfield 25, 3) := by decide +kernel
theorem dX1_hoursToNextMonsoon_9 : decode cX1_hoursToNextMonsoon 9 = .ok (.if_icmp .ge 45, 3) := by decide +kernel
theorem dX1_hoursToNextMonsoon_12 : decode cX1_hoursToNextMonsoon 12 = .ok (.iload_n 2, 1) := by decide +kernel
theorem dX1_hoursToNextMonsoon_13 : decode cX1_hoursToNextMonsoon 13 = .ok (.iconst 3, 1) := by decide +kernel
theorem dX1_hoursToNextMonsoon_14 : decode cX1_hoursToNextMonsoon 14 = .ok (.if_icmp .ge 40, 3) := by decide +kernel
theorem dX1_hoursToNextMonsoon_17 : decode cX1_hoursToNextMonsoon 17 = .ok (.aload_n 0, 1) := by decide +kernel
theorem dX1_hoursToNextMonsoon_18 : decode cX1_hoursToNextMonsoon 18 = .ok (.getfield 9, 3) := by decide +kernel
theorem dX1_hoursToNextMonsoon_21 : decode cX1_hoursToNextMonsoon 21 = .ok (.iload_n 2, 1) := by decide +kernel
theorem dX1_hoursToNextMonsoon_22 : decode cX1_hoursToNextMonsoon 22 = .ok (.iaload, 1) := by decide +kernel
theorem dX1_hoursToNextMonsoon_23 : decode cX1_hoursToNextMonsoon 23 = .ok (.bipush 24, 2) := by decide +kernel
theorem dX1_hoursToNextMonsoon_25 : decode cX1_hoursToNextMonsoon 25 = .ok (.imul, 1) := by decide +kernel
theorem dX1_hoursToNextMonsoon_26 : decode cX1_hoursToNextMonsoon 26 = .ok (.aload_n 0, 1) := by decide +kernel
theorem dX1_hoursToNextMonsoon_27 : decode cX1_hoursToNextMonsoon 27 = .ok (.getfield 15, 3) := by decide +kernel
theorem dX1_hoursToNextMonsoon_30 : decode cX1_hoursToNextMonsoon 30 = .ok (.isub, 1) := by decide +kernel
theorem dX1_hoursToNextMonsoon_31 : decode cX1_hoursToNextMonsoon 31 = .ok (.istore_n 3, 1) := by decide +kernel
theorem dX1_hoursToNextMonsoon_32 : decode cX1_hoursToNextMonsoon 32 = .ok (.iload_n 3, 1) := by decide +kernel
theorem dX1_hoursToNextMonsoon_33 : decode cX1_hoursToNextMonsoon 33 = .ok (.ifCond .le 15, 3) := by decide +kernel
theorem dX1_hoursToNextMonsoon_36 : decode cX1_hoursToNextMonsoon 36 = .ok (.iload_n 1, 1) := by decide +kernel
theorem dX1_hoursToNextMonsoon_37 : decode cX1_hoursToNextMonsoon 37 = .ok (.iconst (-1), 1) := by decide +kernel
theorem dX1_hoursToNextMonsoon_38 : decode cX1_hoursToNextMonsoon 38 = .ok (.if_icmp .eq 8, 3) := by decide +kernel
theorem dX1_hoursToNextMonsoon_41 : decode cX1_hoursToNextMonsoon 41 = .ok (.iload_n 3, 1) := by decide +kernel
theorem dX1_hoursToNextMonsoon_42 : decode cX1_hoursToNextMonsoon 42 = .ok (.iload_n 1, 1) := by decide +kernel
theorem dX1_hoursToNextMonsoon_43 : decode cX1_hoursToNextMonsoon 43 = .ok (.if_icmp .ge 5, 3) := by decide +kernel
theorem dX1_hoursToNextMonsoon_46 : decode cX1_hoursToNextMonsoon 46 = .ok (.iload_n 3, 1) := by decide +kernel
theorem dX1_hoursToNextMonsoon_47 : decode cX1_hoursToNextMonsoon 47 = .ok (.istore_n 1, 1) := by decide +kernel
theorem dX1_hoursToNextMonsoon_48 : decode cX1_hoursToNextMonsoon 48 = .ok (.iinc 2 1, 3) := by decide +kernel
theorem dX1_hoursToNextMonsoon_51 : decode cX1_hoursToNextMonsoon 51 = .ok (.goto (-47), 3) := by decide +kernel
theorem dX1_hoursToNextMonsoon_54 : decode cX1_hoursToNextMonsoon 54 = .ok (.iload_n 1, 1) := by decide +kernel
theorem dX1_hoursToNextMonsoon_55 : decode cX1_hoursToNextMonsoon 55 = .ok (.ireturn, 1) := by decide +kernel
theorem dX1_humidityOf_0 : decode cX1_humidityOf 0 = .ok (.aload_n 0, 1) := by decide +kernel
theorem dX1_humidityOf_1 : decode cX1_humidityOf 1 = .ok (.iload_n 1, 1) := by decide +kernel
theorem dX1_humidityOf_2 : decode cX1_humidityOf 2 = .ok (.invokevirtual 28, 3) := by decide +kernel
theorem dX1_humidityOf_5 : decode cX1_humidityOf 5 = .ok (.ifCond .eq 8, 3) := by decide +kernel
theorem dX1_humidityOf_8 : decode cX1_humidityOf 8 = .ok (.bipush 95, 2) := by decide +kernel
theorem dX1_humidityOf_10 : decode cX1_humidityOf 10 = .ok (.goto 7, 3) := by decide +kernel
theorem dX1_humidityOf_13 : decode cX1_humidityOf 13 = .ok (.aload_n 0, 1) := by decide +kernel
theorem dX1_humidityOf_14 : decode cX1_humidityOf 14 = .ok (.getfield 19, 3) := by decide +kernel
theorem dX1_humidityOf_17 : decode cX1_humidityOf 17 = .ok (.ireturn, 1) := by decide +kernel
theorem dX1_drynessOf_0 : decode cX1_drynessOf 0 = .ok (.bipush 100, 2) := by decide +kernel
theorem dX1_drynessOf_2 : decode cX1_drynessOf 2 = .ok (.aload_n 0, 1) := by decide +kernel
theorem dX1_drynessOf_3 : decode cX1_drynessOf 3 = .ok (.iload_n 1, 1) := by decide +kernel
theorem dX1_drynessOf_4 : decode cX1_drynessOf 4 = .ok (.invokevirtual 32, 3) := by decide +kernel
theorem dX1_drynessOf_7 : decode cX1_drynessOf 7 = .ok (.isub, 1) := by decide +kernel
theorem dX1_drynessOf_8 : decode cX1_drynessOf 8 = .ok (.iconst 5, 1) := by decide +kernel
theorem dX1_drynessOf_9 : decode cX1_drynessOf 9 = .ok (.aload_n 0, 1) := by decide +kernel
theorem dX1_drynessOf_10 : decode cX1_drynessOf 10 = .ok (.getfield 22, 3) := by decide +kernel
theorem dX1_drynessOf_13 : decode cX1_drynessOf 13 = .ok (.imul, 1) := by decide +kernel
theorem dX1_drynessOf_14 : decode cX1_drynessOf 14 = .ok (.iadd, 1) := by decide +kernel
theorem dX1_drynessOf_15 : decode cX1_drynessOf 15 = .ok (.ireturn, 1) := by decide +kernel
theorem dX3_init_0 : decode cX3_init 0 = .ok (.aload_n 0, 1) := by decide +kernel
theorem dX3_init_1 : decode cX3_init 1 = .ok (.invokespecial 3, 3) := by decide +kernel
theorem dX3_init_4 : decode cX3_init 4 = .ok (.aload_n 0, 1) := by decide +kernel
theorem dX3_init_5 : decode cX3_init 5 = .ok (.bipush 8, 2) := by decide +kernel
theorem dX3_init_7 : decode cX3_init 7 = .ok (.anewarray 9, 3) := by decide +kernel
theorem dX3_init_10 : decode cX3_init 10 = .ok (.putfield 11, 3) := by decide +kernel
theorem dX3_init_13 : decode cX3_init 13 = .ok (.iconst 0, 1) := by decide +kernel
theorem dX3_init_14 : decode cX3_init 14 = .ok (.istore_n 1, 1) := by decide +kernel
theorem dX3_init_15 : decode cX3_init 15 = .ok (.iload_n 1, 1) := by decide +kernel
theorem dX3_init_16 : decode cX3_init 16 = .ok (.bipush 8, 2) := by decide +kernel
theorem dX3_init_18 : decode cX3_init 18 = .ok (.if_icmp .ge 22, 3) := by decide +kernel
theorem dX3_init_21 : decode cX3_init 21 = .ok (.aload_n 0, 1) := by decide +kernel
theorem dX3_init_22 : decode cX3_init 22 = .ok (.getfield 11, 3) := by decide +kernel
theorem dX3_init_25 : decode cX3_init 25 = .ok (.iload_n 1, 1) := by decide +kernel
theorem dX3_init_26 : decode cX3_init 26 = .ok (.new 9, 3) := by decide +kernel
theorem dX3_init_29 : decode cX3_init 29 = .ok (.dup, 1) := by decide +kernel
theorem dX3_init_30 : decode cX3_init 30 = .ok (.invokespecial 17, 3) := by decide +kernel
theorem dX3_init_33 : decode cX3_init 33 = .ok (.aastore, 1) := by decide +kernel
theorem dX3_init_34 : decode cX3_init 34 = .ok (.iinc 1 1, 3) := by decide +kernel
theorem dX3_init_37 : decode cX3_init 37 = .ok (.goto (-22), 3) := by decide +kernel
theorem dX3_init_40 : decode cX3_init 40 = .ok (.return_, 1) := by decide +kernel
theorem dX3_remember_0 : decode cX3_remember 0 = .ok (.aload_n 0, 1) := by decide +kernel
theorem dX3_remember_1 : decode cX3_remember 1 = .ok (.getfield 11, 3) := by decide +kernel
theorem dX3_remember_4 : decode cX3_remember 4 = .ok (.aload_n 0, 1) := by decide +kernel
theorem dX3_remember_5 : decode cX3_remember 5 = .ok (.getfield 18, 3) := by decide +kernel
theorem dX3_remember_8 : decode cX3_remember 8 = .ok (.bipush 8, 2) := by decide +kernel
theorem dX3_remember_10 : decode cX3_remember 10 = .ok (.invokestatic 22, 3) := by decide +kernel
theorem dX3_remember_13 : decode cX3_remember 13 = .ok (.aaload, 1) := by decide +kernel
theorem dX3_remember_14 : decode cX3_remember 14 = .ok (.aload_n 1, 1) := by decide +kernel
theorem dX3_remember_15 : decode cX3_remember 15 = .ok (.invokevirtual 28, 3) := by decide +kernel
theorem dX3_remember_18 : decode cX3_remember 18 = .ok (.aload_n 0, 1) := by decide +kernel
theorem dX3_remember_19 : decode cX3_remember 19 = .ok (.aload_n 0, 1) := by decide +kernel
theorem dX3_remember_20 : decode cX3_remember 20 = .ok (.getfield 18, 3) := by decide +kernel
theorem dX3_remember_23 : decode cX3_remember 23 = .ok (.iconst 1, 1) := by decide +kernel
theorem dX3_remember_24 : decode cX3_remember 24 = .ok (.iadd, 1) := by decide +kernel
theorem dX3_remember_25 : decode cX3_remember 25 = .ok (.bipush 8, 2) := by decide +kernel
theorem dX3_remember_27 : decode cX3_remember 27 = .ok (.invokestatic 22, 3) := by decide +kernel
theorem dX3_remember_30 : decode cX3_remember 30 = .ok (.putfield 18, 3) := by decide +kernel
theorem dX3_remember_33 : decode cX3_remember 33 = .ok (.aload_n 0, 1) := by decide +kernel
theorem dX3_remember_34 : decode cX3_remember 34 = .ok (.getfield 32, 3) := by decide +kernel
theorem dX3_remember_37 : decode cX3_remember 37 = .ok (.bipush 8, 2) := by decide +kernel
theorem dX3_remember_39 : decode cX3_remember 39 = .ok (.if_icmp .ge 13, 3) := by decide +kernel
theorem dX3_remember_42 : decode cX3_remember 42 = .ok (.aload_n 0, 1) := by decide +kernel
theorem dX3_remember_43 : decode cX3_remember 43 = .ok (.dup, 1) := by decide +kernel
theorem dX3_remember_44 : decode cX3_remember 44 = .ok (.getfield 32, 3) := by decide +kernel
theorem dX3_remember_47 : decode cX3_remember 47 = .ok (.iconst 1, 1) := by decide +kernel
theorem dX3_remember_48 : decode cX3_remember 48 = .ok (.iadd, 1) := by decide +kernel
theorem dX3_remember_49 : decode cX3_remember 49 = .ok (.putfield 32, 3) := by decide +kernel
theorem dX3_remember_52 : decode cX3_remember 52 = .ok (.return_, 1) := by decide +kernel
theorem dX3_takeBack_0 : decode cX3_takeBack 0 = .ok (.aload_n 0, 1) := by decide +kernel
theorem dX3_takeBack_1 : decode cX3_takeBack 1 = .ok (.aload_n 0, 1) := by decide +kernel
theorem dX3_takeBack_2 : decode cX3_takeBack 2 = .ok (.getfield 18, 3) := by decide +kernel
theorem dX3_takeBack_5 : decode cX3_takeBack 5 = .ok (.iconst 1, 1) := by decide +kernel
theorem dX3_takeBack_6 : decode cX3_takeBack 6 = .ok (.isub, 1) := by decide +kernel
theorem dX3_takeBack_7 : decode cX3_takeBack 7 = .ok (.bipush 8, 2) := by decide +kernel
theorem dX3_takeBack_9 : decode cX3_takeBack 9 = .ok (.invokestatic 22, 3) := by decide +kernel
theorem dX3_takeBack_12 : decode cX3_takeBack 12 = .ok (.putfield 18, 3) := by decide +kernel
theorem dX3_takeBack_15 : decode cX3_takeBack 15 = .ok (.aload_n 1, 1) := by decide +kernel
theorem dX3_takeBack_16 : decode cX3_takeBack 16 = .ok (.aload_n 0, 1) := by decide +kernel
theorem dX3_takeBack_17 : decode cX3_takeBack 17 = .ok (.getfield 11, 3) := by decide +kernel
theorem dX3_takeBack_20 : decode cX3_takeBack 20 = .ok (.aload_n 0, 1) := by decide +kernel
theorem dX3_takeBack_21 : decode cX3_takeBack 21 = .ok (.getfield 18, 3) := by decide +kernel
theorem dX3_takeBack_24 : decode cX3_takeBack 24 = .ok (.aaload, 1) := by decide +kernel
theorem dX3_takeBack_25 : decode cX3_takeBack 25 = .ok (.invokevirtual 28, 3) := by decide +kernel
theorem dX3_takeBack_28 : decode cX3_takeBack 28 = .ok (.aload_n 0, 1) := by decide +kernel
theorem dX3_takeBack_29 : decode cX3_takeBack 29 = .ok (.dup, 1) := by decide +kernel
theorem dX3_takeBack_30 : decode cX3_takeBack 30 = .ok (.getfield 32, 3) := by decide +kernel
theorem dX3_takeBack_33 : decode cX3_takeBack 33 = .ok (.iconst 1, 1) := by decide +kernel
theorem dX3_takeBack_34 : decode cX3_takeBack 34 = .ok (.isub, 1) := by decide +kernel
theorem dX3_takeBack_35 : decode cX3_takeBack 35 = .ok (.putfield 32, 3) := by decide +kernel
theorem dX3_takeBack_38 : decode cX3_takeBack 38 = .ok (.return_, 1) := by decide +kernel
theorem dX4_init_0 : decode cX4_init 0 = .ok (.aload_n 0, 1) := by decide +kernel
theorem dX4_init_1 : decode cX4_init 1 = .ok (.invokespecial 3, 3) := by decide +kernel
theorem dX4_init_4 : decode cX4_init 4 = .ok (.aload_n 0, 1) := by decide +kernel
theorem dX4_init_5 : decode cX4_init 5 = .ok (.sipush 600, 3) := by decide +kernel
theorem dX4_init_8 : decode cX4_init 8 = .ok (.newarray .byte, 2) := by decide +kernel
theorem dX4_init_10 : decode cX4_init 10 = .ok (.putfield 9, 3) := by decide +kernel
theorem dX4_init_13 : decode cX4_init 13 = .ok (.return_, 1) := by decide +kernel
theorem dX5_init_0 : decode cX5_init 0 = .ok (.aload_n 0, 1) := by decide +kernel
theorem dX5_init_1 : decode cX5_init 1 = .ok (.invokespecial 3, 3) := by decide +kernel
theorem dX5_init_4 : decode cX5_init 4 = .ok (.aload_n 0, 1) := by decide +kernel
theorem dX5_init_5 : decode cX5_init 5 = .ok (.new 9, 3) := by decide +kernel
theorem dX5_init_8 : decode cX5_init 8 = .ok (.dup, 1) := by decide +kernel
theorem dX5_init_9 : decode cX5_init 9 = .ok (.invokespecial 11, 3) := by decide +kernel
theorem dX5_init_12 : decode cX5_init 12 = .ok (.putfield 12, 3) := by decide +kernel
theorem dX5_init_15 : decode cX5_init 15 = .ok (.aload_n 0, 1) := by decide +kernel
theorem dX5_init_16 : decode cX5_init 16 = .ok (.bipush 8, 2) := by decide +kernel
theorem dX5_init_18 : decode cX5_init 18 = .ok (.anewarray 18, 3) := by decide +kernel
theorem dX5_init_21 : decode cX5_init 21 = .ok (.putfield 20, 3) := by decide +kernel
theorem dX5_init_24 : decode cX5_init 24 = .ok (.aload_n 0, 1) := by decide +kernel
theorem dX5_init_25 : decode cX5_init 25 = .ok (.bipush 6, 2) := by decide +kernel
theorem dX5_init_27 : decode cX5_init 27 = .ok (.anewarray 24, 3) := by decide +kernel
theorem dX5_init_30 : decode cX5_init 30 = .ok (.putfield 26, 3) := by decide +kernel
theorem dX5_init_33 : decode cX5_init 33 = .ok (.iconst 0, 1) := by decide +kernel
theorem dX5_init_34 : decode cX5_init 34 = .ok (.istore_n 1, 1) := by decide +kernel
theorem dX5_init_35 : decode cX5_init 35 = .ok (.iload_n 1, 1) := by decide +kernel
theorem dX5_init_36 : decode cX5_init 36 = .ok (.bipush 8, 2) := by decide +kernel
theorem dX5_init_38 : decode cX5_init 38 = .ok (.if_icmp .ge 22, 3) := by decide +kernel
theorem dX5_init_41 : decode cX5_init 41 = .ok (.aload_n 0, 1) := by decide +kernel
theorem dX5_init_42 : decode cX5_init 42 = .ok (.getfield 20, 3) := by decide +kernel
theorem dX5_init_45 : decode cX5_init 45 = .ok (.iload_n 1, 1) := by decide +kernel
theorem dX5_init_46 : decode cX5_init 46 = .ok (.new 18, 3) := by decide +kernel
theorem dX5_init_49 : decode cX5_init 49 = .ok (.dup, 1) := by decide +kernel
theorem dX5_init_50 : decode cX5_init 50 = .ok (.invokespecial 30, 3) := by decide +kernel
theorem dX5_init_53 : decode cX5_init 53 = .ok (.aastore, 1) := by decide +kernel
theorem dX5_init_54 : decode cX5_init 54 = .ok (.iinc 1 1, 3) := by decide +kernel
theorem dX5_init_57 : decode cX5_init 57 = .ok (.goto (-22), 3) := by decide +kernel
theorem dX5_init_60 : decode cX5_init 60 = .ok (.iconst 0, 1) := by decide +kernel
theorem dX5_init_61 : decode cX5_init 61 = .ok (.istore_n 1, 1) := by decide +kernel
theorem dX5_init_62 : decode cX5_init 62 = .ok (.iload_n 1, 1) := by decide +kernel
theorem dX5_init_63 : decode cX5_init 63 = .ok (.bipush 6, 2) := by decide +kernel
theorem dX5_init_65 : decode cX5_init 65 = .ok (.if_icmp .ge 22, 3) := by decide +kernel
theorem dX5_init_68 : decode cX5_init 68 = .ok (.aload_n 0, 1) := by decide +kernel
theorem dX5_init_69 : decode cX5_init 69 = .ok (.getfield 26, 3) := by decide +kernel
theorem dX5_init_72 : decode cX5_init 72 = .ok (.iload_n 1, 1) := by decide +kernel
theorem dX5_init_73 : decode cX5_init 73 = .ok (.new 24, 3) := by decide +kernel
theorem dX5_init_76 : decode cX5_init 76 = .ok (.dup, 1) := by decide +kernel
theorem dX5_init_77 : decode cX5_init 77 = .ok (.invokespecial 31, 3) := by decide +kernel
theorem dX5_init_80 : decode cX5_init 80 = .ok (.aastore, 1) := by decide +kernel
theorem dX5_init_81 : decode cX5_init 81 = .ok (.iinc 1 1, 3) := by decide +kernel
theorem dX5_init_84 : decode cX5_init 84 = .ok (.goto (-22), 3) := by decide +kernel
theorem dX5_init_87 : decode cX5_init 87 = .ok (.aload_n 0, 1) := by decide +kernel
theorem dX5_init_88 : decode cX5_init 88 = .ok (.invokevirtual 32, 3) := by decide +kernel
theorem dX5_init_91 : decode cX5_init 91 = .ok (.return_, 1) := by decide +kernel
theorem dX5_clear_0 : decode cX5_clear 0 = .ok (.aload_n 0, 1) := by decide +kernel
theorem dX5_clear_1 : decode cX5_clear 1 = .ok (.getfield 12, 3) := by decide +kernel
theorem dX5_clear_4 : decode cX5_clear 4 = .ok (.invokevirtual 35, 3) := by decide +kernel
theorem dX5_clear_7 : decode cX5_clear 7 = .ok (.iconst 0, 1) := by decide +kernel
theorem dX5_clear_8 : decode cX5_clear 8 = .ok (.istore_n 1, 1) := by decide +kernel
theorem dX5_clear_9 : decode cX5_clear 9 = .ok (.iload_n 1, 1) := by decide +kernel
theorem dX5_clear_10 : decode cX5_clear 10 = .ok (.bipush 8, 2) := by decide +kernel
theorem dX5_clear_12 : decode cX5_clear 12 = .ok (.if_icmp .ge 19, 3) := by decide +kernel
theorem dX5_clear_15 : decode cX5_clear 15 = .ok (.aload_n 0, 1) := by decide +kernel
theorem dX5_clear_16 : decode cX5_clear 16 = .ok (.getfield 20, 3) := by decide +kernel
theorem dX5_clear_19 : decode cX5_clear 19 = .ok (.iload_n 1, 1) := by decide +kernel
theorem dX5_clear_20 : decode cX5_clear 20 = .ok (.aaload, 1) := by decide +kernel
theorem dX5_clear_21 : decode cX5_clear 21 = .ok (.iconst 0, 1) := by decide +kernel
theorem dX5_clear_22 : decode cX5_clear 22 = .ok (.invokevirtual 36, 3) := by decide +kernel
theorem dX5_clear_25 : decode cX5_clear 25 = .ok (.iinc 1 1, 3) := by decide +kernel
theorem dX5_clear_28 : decode cX5_clear 28 = .ok (.goto (-19), 3) := by decide +kernel
theorem dX5_clear_31 : decode cX5_clear 31 = .ok (.aload_n 0, 1) := by decide +kernel
theorem dX5_clear_32 : decode cX5_clear 32 = .ok (.iconst 0, 1) := by decide +kernel
theorem dX5_clear_33 : decode cX5_clear 33 = .ok (.putfield 40, 3) := by decide +kernel
theorem dX5_clear_36 : decode cX5_clear 36 = .ok (.aload_n 0, 1) := by decide +kernel
theorem dX5_clear_37 : decode cX5_clear 37 = .ok (.iconst 0, 1) := by decide +kernel
theorem dX5_clear_38 : decode cX5_clear 38 = .ok (.putfield 44, 3) := by decide +kernel
theorem dX5_clear_41 : decode cX5_clear 41 = .ok (.aload_n 0, 1) := by decide +kernel
theorem dX5_clear_42 : decode cX5_clear 42 = .ok (.sipush 580, 3) := by decide +kernel
theorem dX5_clear_45 : decode cX5_clear 45 = .ok (.putfield 47, 3) := by decide +kernel
theorem dX5_clear_48 : decode cX5_clear 48 = .ok (.aload_n 0, 1) := by decide +kernel
theorem dX5_clear_49 : decode cX5_clear 49 = .ok (.bipush 20, 2) := by decide +kernel
theorem dX5_clear_51 : decode cX5_clear 51 = .ok (.putfield 50, 3) := by decide +kernel
theorem dX5_clear_54 : decode cX5_clear 54 = .ok (.aload_n 0, 1) := by decide +kernel
theorem dX5_clear_55 : decode cX5_clear 55 = .ok (.iconst 0, 1) := by decide +kernel
theorem dX5_clear_56 : decode cX5_clear 56 = .ok (.putfield 53, 3) := by decide +kernel
theorem dX5_clear_59 : decode cX5_clear 59 = .ok (.aload_n 0, 1) := by decide +kernel
theorem dX5_clear_60 : decode cX5_clear 60 = .ok (.iconst 0, 1) := by decide +kernel
theorem dX5_clear_61 : decode cX5_clear 61 = .ok (.putfield 56, 3) := by decide +kernel
theorem dX5_clear_64 : decode cX5_clear 64 = .ok (.aload_n 0, 1) := by decide +kernel
theorem dX5_clear_65 : decode cX5_clear 65 = .ok (.iconst 0, 1) := by decide +kernel
theorem dX5_clear_66 : decode cX5_clear 66 = .ok (.putfield 59, 3) := by decide +kernel
theorem dX5_clear_69 : decode cX5_clear 69 = .ok (.aload_n 0, 1) := by decide +kernel
theorem dX5_clear_70 : decode cX5_clear 70 = .ok (.iconst 0, 1) := by decide +kernel
theorem dX5_clear_71 : decode cX5_clear 71 = .ok (.putfield 62, 3) := by decide +kernel
theorem dX5_clear_74 : decode cX5_clear 74 = .ok (.aload_n 0, 1) := by decide +kernel
theorem dX5_clear_75 : decode cX5_clear 75 = .ok (.iconst 0, 1) := by decide +kernel
theorem dX5_clear_76 : decode cX5_clear 76 = .ok (.putfield 65, 3) := by decide +kernel
theorem dX5_clear_79 : decode cX5_clear 79 = .ok (.aload_n 0, 1) := by decide +kernel
theorem dX5_clear_80 : decode cX5_clear 80 = .ok (.iconst 0, 1) := by decide +kernel
theorem dX5_clear_81 : decode cX5_clear 81 = .ok (.putfield 68, 3) := by decide +kernel
theorem dX5_clear_84 : decode cX5_clear 84 = .ok (.return_, 1) := by decide +kernel
theorem dX5_become_0 : decode cX5_become 0 = .ok (.aload_n 0, 1) := by decide +kernel
theorem dX5_become_1 : decode cX5_become 1 = .ok (.getfield 12, 3) := by decide +kernel
theorem dX5_become_4 : decode cX5_become 4 = .ok (.aload_n 1, 1) := by decide +kernel
theorem dX5_become_5 : decode cX5_become 5 = .ok (.getfield 12, 3) := by decide +kernel
theorem dX5_become_8 : decode cX5_become 8 = .ok (.invokevirtual 71, 3) := by decide +kernel
theorem dX5_become_11 : decode cX5_become 11 = .ok (.iconst 0, 1) := by decide +kernel
theorem dX5_become_12 : decode cX5_become 12 = .ok (.istore_n 2, 1) := by decide +kernel
theorem dX5_become_13 : decode cX5_become 13 = .ok (.iload_n 2, 1) := by decide +kernel
theorem dX5_become_14 : decode cX5_become 14 = .ok (.bipush 8, 2) := by decide +kernel
theorem dX5_become_16 : decode cX5_become 16 = .ok (.if_icmp .ge 24, 3) := by decide +kernel
theorem dX5_become_19 : decode cX5_become 19 = .ok (.aload_n 0, 1) := by decide +kernel
theorem dX5_become_20 : decode cX5_become 20 = .ok (.getfield 20, 3) := by decide +kernel
theorem dX5_become_23 : decode cX5_become 23 = .ok (.iload_n 2, 1) := by decide +kernel
theorem dX5_become_24 : decode cX5_become 24 = .ok (.aaload, 1) := by decide +kernel
theorem dX5_become_25 : decode cX5_become 25 = .ok (.aload_n 1, 1) := by decide +kernel
theorem dX5_become_26 : decode cX5_become 26 = .ok (.getfield 20, 3) := by decide +kernel
theorem dX5_become_29 : decode cX5_become 29 = .ok (.iload_n 2, 1) := by decide +kernel
theorem dX5_become_30 : decode cX5_become 30 = .ok (.aaload, 1) := by decide +kernel
theorem dX5_become_31 : decode cX5_become 31 = .ok (.invokevirtual 75, 3) := by decide +kernel
theorem dX5_become_34 : decode cX5_become 34 = .ok (.iinc 2 1, 3) := by decide +kernel
theorem dX5_become_37 : decode cX5_become 37 = .ok (.goto (-24), 3) := by decide +kernel
theorem dX5_become_40 : decode cX5_become 40 = .ok (.aload_n 0, 1) := by decide +kernel
theorem dX5_become_41 : decode cX5_become 41 = .ok (.aload_n 1, 1) := by decide +kernel
theorem dX5_become_42 : decode cX5_become 42 = .ok (.getfield 40, 3) := by decide +kernel
theorem dX5_become_45 : decode cX5_become 45 = .ok (.putfield 40, 3) := by decide +kernel
theorem dX5_become_48 : decode cX5_become 48 = .ok (.iconst 0, 1) := by decide +kernel
theorem dX5_become_49 : decode cX5_become 49 = .ok (.istore_n 2, 1) := by decide +kernel
theorem dX5_become_50 : decode cX5_become 50 = .ok (.iload_n 2, 1) := by decide +kernel
theorem dX5_become_51 : decode cX5_become 51 = .ok (.bipush 6, 2) := by decide +kernel
theorem dX5_become_53 : decode cX5_become 53 = .ok (.if_icmp .ge 24, 3) := by decide +kernel
theorem dX5_become_56 : decode cX5_become 56 = .ok (.aload_n 0, 1) := by decide +kernel
theorem dX5_become_57 : decode cX5_become 57 = .ok (.getfield 26, 3) := by decide +kernel
theorem dX5_become_60 : decode cX5_become 60 = .ok (.iload_n 2, 1) := by decide +kernel
theorem dX5_become_61 : decode cX5_become 61 = .ok (.aaload, 1) := by decide +kernel
theorem dX5_become_62 : decode cX5_become 62 = .ok (.aload_n 1, 1) := by decide +kernel
theorem dX5_become_63 : decode cX5_become 63 = .ok (.getfield 26, 3) := by decide +kernel
theorem dX5_become_66 : decode cX5_become 66 = .ok (.iload_n 2, 1) := by decide +kernel
theorem dX5_become_67 : decode cX5_become 67 = .ok (.aaload, 1) := by decide +kernel
theorem dX5_become_68 : decode cX5_become 68 = .ok (.invokevirtual 78, 3) := by decide +kernel
theorem dX5_become_71 : decode cX5_become 71 = .ok (.iinc 2 1, 3) := by decide +kernel
theorem dX5_become_74 : decode cX5_become 74 = .ok (.goto (-24), 3) := by decide +kernel
theorem dX5_become_77 : decode cX5_become 77 = .ok (.aload_n 0, 1) := by decide +kernel
theorem dX5_become_78 : decode cX5_become 78 = .ok (.aload_n 1, 1) := by decide +kernel
theorem dX5_become_79 : decode cX5_become 79 = .ok (.getfield 44, 3) := by decide +kernel
theorem dX5_become_82 : decode cX5_become 82 = .ok (.putfield 44, 3) := by decide +kernel
theorem dX5_become_85 : decode cX5_become 85 = .ok (.aload_n 0, 1) := by decide +kernel
theorem dX5_become_86 : decode cX5_become 86 = .ok (.aload_n 1, 1) := by decide +kernel
theorem dX5_become_87 : decode cX5_become 87 = .ok (.getfield 47, 3) := by decide +kernel
theorem dX5_become_90 : decode cX5_become 90 = .ok (.putfield 47, 3) := by decide +kernel
theorem dX5_become_93 : decode cX5_become 93 = .ok (.aload_n 0, 1) := by decide +kernel
theorem dX5_become_94 : decode cX5_become 94 = .ok (.aload_n 1, 1) := by decide +kernel
theorem dX5_become_95 : decode cX5_become 95 = .ok (.getfield 50, 3) := by decide +kernel
theorem dX5_become_98 : decode cX5_become 98 = .ok (.putfield 50, 3) := by decide +kernel
theorem dX5_become_101 : decode cX5_become 101 = .ok (.aload_n 0, 1) := by decide +kernel
theorem dX5_become_102 : decode cX5_become 102 = .ok (.aload_n 1, 1) := by decide +kernel
theorem dX5_become_103 : decode cX5_become 103 = .ok (.getfield 53, 3) := by decide +kernel
theorem dX5_become_106 : decode cX5_become 106 = .ok (.putfield 53, 3) := by decide +kernel
theorem dX5_become_109 : decode cX5_become 109 = .ok (.aload_n 0, 1) := by decide +kernel
theorem dX5_become_110 : decode cX5_become 110 = .ok (.aload_n 1, 1) := by decide +kernel
theorem dX5_become_111 : decode cX5_become 111 = .ok (.getfield 56, 3) := by decide +kernel
theorem dX5_become_114 : decode cX5_become 114 = .ok (.putfield 56, 3) := by decide +kernel
theorem dX5_become_117 : decode cX5_become 117 = .ok (.aload_n 0, 1) := by decide +kernel
theorem dX5_become_118 : decode cX5_become 118 = .ok (.aload_n 1, 1) := by decide +kernel
theorem dX5_become_119 : decode cX5_become 119 = .ok (.getfield 59, 3) := by decide +kernel
theorem dX5_become_122 : decode cX5_become 122 = .ok (.putfield 59, 3) := by decide +kernel
theorem dX5_become_125 : decode cX5_become 125 = .ok (.aload_n 0, 1) := by decide +kernel
theorem dX5_become_126 : decode cX5_become 126 = .ok (.aload_n 1, 1) := by decide +kernel
theorem dX5_become_127 : decode cX5_become 127 = .ok (.getfield 62, 3) := by decide +kernel
theorem dX5_become_130 : decode cX5_become 130 = .ok (.putfield 62, 3) := by decide +kernel
theorem dX5_become_133 : decode cX5_become 133 = .ok (.aload_n 0, 1) := by decide +kernel
theorem dX5_become_134 : decode cX5_become 134 = .ok (.aload_n 1, 1) := by decide +kernel
theorem dX5_become_135 : decode cX5_become 135 = .ok (.getfield 65, 3) := by decide +kernel
theorem dX5_become_138 : decode cX5_become 138 = .ok (.putfield 65, 3) := by decide +kernel
theorem dX5_become_141 : decode cX5_become 141 = .ok (.aload_n 0, 1) := by decide +kernel
theorem dX5_become_142 : decode cX5_become 142 = .ok (.aload_n 1, 1) := by decide +kernel
theorem dX5_become_143 : decode cX5_become 143 = .ok (.getfield 68, 3) := by decide +kernel
theorem dX5_become_146 : decode cX5_become 146 = .ok (.putfield 68, 3) := by decide +kernel
theorem dX5_become_149 : decode cX5_become 149 = .ok (.return_, 1) := by decide +kernel
theorem dX5_hasTrough_0 : decode cX5_hasTrough 0 = .ok (.iload_n 1, 1) := by decide +kernel
theorem dX5_hasTrough_1 : decode cX5_hasTrough 1 = .ok (.ifCond .lt 15, 3) := by decide +kernel
theorem dX5_hasTrough_4 : decode cX5_hasTrough 4 = .ok (.iload_n 1, 1) := by decide +kernel
theorem dX5_hasTrough_5 : decode cX5_hasTrough 5 = .ok (.aload_n 0, 1) := by decide +kernel
theorem dX5_hasTrough_6 : decode cX5_hasTrough 6 = .ok (.getfield 40, 3) := by decide +kernel
theorem dX5_hasTrough_9 : decode cX5_hasTrough 9 = .ok (.if_icmp .ge 7, 3) := by decide +kernel
theorem dX5_hasTrough_12 : decode cX5_hasTrough 12 = .ok (.iconst 1, 1) := by decide +kernel
theorem dX5_hasTrough_13 : decode cX5_hasTrough 13 = .ok (.goto 4, 3) := by decide +kernel
theorem dX5_hasTrough_16 : decode cX5_hasTrough 16 = .ok (.iconst 0, 1) := by decide +kernel
theorem dX5_hasTrough_17 : decode cX5_hasTrough 17 = .ok (.ireturn, 1) := by decide +kernel
theorem dX5_troughAt_0 : decode cX5_troughAt 0 = .ok (.iload_n 1, 1) := by decide +kernel
theorem dX5_troughAt_1 : decode cX5_troughAt 1 = .ok (.ifCond .lt 18, 3) := by decide +kernel
theorem dX5_troughAt_4 : decode cX5_troughAt 4 = .ok (.iload_n 1, 1) := by decide +kernel
theorem dX5_troughAt_5 : decode cX5_troughAt 5 = .ok (.bipush 8, 2) := by decide +kernel
theorem dX5_troughAt_7 : decode cX5_troughAt 7 = .ok (.if_icmp .ge 12, 3) := by decide +kernel
theorem dX5_troughAt_10 : decode cX5_troughAt 10 = .ok (.aload_n 0, 1) := by decide +kernel
theorem dX5_troughAt_11 : decode cX5_troughAt 11 = .ok (.getfield 20, 3) := by decide +kernel
theorem dX5_troughAt_14 : decode cX5_troughAt 14 = .ok (.iload_n 1, 1) := by decide +kernel
theorem dX5_troughAt_15 : decode cX5_troughAt 15 = .ok (.aaload, 1) := by decide +kernel
theorem dX5_troughAt_16 : decode cX5_troughAt 16 = .ok (.goto 9, 3) := by decide +kernel
theorem dX5_troughAt_19 : decode cX5_troughAt 19 = .ok (.aload_n 0, 1) := by decide +kernel
theorem dX5_troughAt_20 : decode cX5_troughAt 20 = .ok (.getfield 20, 3) := by decide +kernel
theorem dX5_troughAt_23 : decode cX5_troughAt 23 = .ok (.iconst 0, 1) := by decide +kernel
theorem dX5_troughAt_24 : decode cX5_troughAt 24 = .ok (.aaload, 1) := by decide +kernel
theorem dX5_troughAt_25 : decode cX5_troughAt 25 = .ok (.areturn, 1) := by decide +kernel
theorem dX5_hasProbe_0 : decode cX5_hasProbe 0 = .ok (.iload_n 1, 1) := by decide +kernel
theorem dX5_hasProbe_1 : decode cX5_hasProbe 1 = .ok (.ifCond .lt 15, 3) := by decide +kernel
theorem dX5_hasProbe_4 : decode cX5_hasProbe 4 = .ok (.iload_n 1, 1) := by decide +kernel
theorem dX5_hasProbe_5 : decode cX5_hasProbe 5 = .ok (.aload_n 0, 1) := by decide +kernel
theorem dX5_hasProbe_6 : decode cX5_hasProbe 6 = .ok (.getfield 44, 3) := by decide +kernel
theorem dX5_hasProbe_9 : decode cX5_hasProbe 9 = .ok (.if_icmp .ge 7, 3) := by decide +kernel
theorem dX5_hasProbe_12 : decode cX5_hasProbe 12 = .ok (.iconst 1, 1) := by decide +kernel
theorem dX5_hasProbe_13 : decode cX5_hasProbe 13 = .ok (.goto 4, 3) := by decide +kernel
theorem dX5_hasProbe_16 : decode cX5_hasProbe 16 = .ok (.iconst 0, 1) := by decide +kernel
theorem dX5_hasProbe_17 : decode cX5_hasProbe 17 = .ok (.ireturn, 1) := by decide +kernel
theorem dX5_probeAt_0 : decode cX5_probeAt 0 = .ok (.iload_n 1, 1) := by decide +kernel
theorem dX5_probeAt_1 : decode cX5_probeAt 1 = .ok (.ifCond .lt 18, 3) := by decide +kernel
theorem dX5_probeAt_4 : decode cX5_probeAt 4 = .ok (.iload_n 1, 1) := by decide +kernel
theorem dX5_probeAt_5 : decode cX5_probeAt 5 = .ok (.bipush 6, 2) := by decide +kernel
theorem dX5_probeAt_7 : decode cX5_probeAt 7 = .ok (.if_icmp .ge 12, 3) := by decide +kernel
theorem dX5_probeAt_10 : decode cX5_probeAt 10 = .ok (.aload_n 0, 1) := by decide +kernel
theorem dX5_probeAt_11 : decode cX5_probeAt 11 = .ok (.getfield 26, 3) := by decide +kernel
theorem dX5_probeAt_14 : decode cX5_probeAt 14 = .ok (.iload_n 1, 1) := by decide +kernel
theorem dX5_probeAt_15 : decode cX5_probeAt 15 = .ok (.aaload, 1) := by decide +kernel
theorem dX5_probeAt_16 : decode cX5_probeAt 16 = .ok (.goto 9, 3) := by decide +kernel
theorem dX5_probeAt_19 : decode cX5_probeAt 19 = .ok (.aload_n 0, 1) := by decide +kernel
theorem dX5_probeAt_20 : decode cX5_probeAt 20 = .ok (.getfield 26, 3) := by decide +kernel
theorem dX5_probeAt_23 : decode cX5_probeAt 23 = .ok (.iconst 0, 1) := by decide +kernel
theorem dX5_probeAt_24 : decode cX5_probeAt 24 = .ok (.aaload, 1) := by decide +kernel
theorem dX5_probeAt_25 : decode cX5_probeAt 25 = .ok (.areturn, 1) := by decide +kernel
theorem dX5_hasRoomForTrough_0 : decode cX5_hasRoomForTrough 0 = .ok (.aload_n 0, 1) := by decide +kernel
theorem dX5_hasRoomForTrough_1 : decode cX5_hasRoomForTrough 1 = .ok (.getfield 40, 3) := by decide +kernel
theorem dX5_hasRoomForTrough_4 : decode cX5_hasRoomForTrough 4 = .ok (.bipush 8, 2) := by decide +kernel
theorem dX5_hasRoomForTrough_6 : decode cX5_hasRoomForTrough 6 = .ok (.if_icmp .ge 7, 3) := by decide +kernel
theorem dX5_hasRoomForTrough_9 : decode cX5_hasRoomForTrough 9 = .ok (.iconst 1, 1) := by decide +kernel
theorem dX5_hasRoomForTrough_10 : decode cX5_hasRoomForTrough 10 = .ok (.goto 4, 3) := by decide +kernel
theorem dX5_hasRoomForTrough_13 : decode cX5_hasRoomForTrough 13 = .ok (.iconst 0, 1) := by decide +kernel
theorem dX5_hasRoomForTrough_14 : decode cX5_hasRoomForTrough 14 = .ok (.ireturn, 1) := by decide +kernel
theorem dX5_placeTrough_0 : decode cX5_placeTrough 0 = .ok (.aload_n 0, 1) := by decide +kernel
theorem dX5_placeTrough_1 : decode cX5_placeTrough 1 = .ok (.aload_n 0, 1) := by decide +kernel
theorem dX5_placeTrough_2 : decode cX5_placeTrough 2 = .ok (.getfield 40, 3) := by decide +kernel
theorem dX5_placeTrough_5 : decode cX5_placeTrough 5 = .ok (.invokevirtual 81, 3) := by decide +kernel
theorem dX5_placeTrough_8 : decode cX5_placeTrough 8 = .ok (.iload_n 1, 1) := by decide +kernel
theorem dX5_placeTrough_9 : decode cX5_placeTrough 9 = .ok (.invokevirtual 36, 3) := by decide +kernel
theorem dX5_placeTrough_12 : decode cX5_placeTrough 12 = .ok (.aload_n 0, 1) := by decide +kernel
theorem dX5_placeTrough_13 : decode cX5_placeTrough 13 = .ok (.dup, 1) := by decide +kernel
theorem dX5_placeTrough_14 : decode cX5_placeTrough 14 = .ok (.getfield 40, 3) := by decide +kernel
theorem dX5_placeTrough_17 : decode cX5_placeTrough 17 = .ok (.iconst 1, 1) := by decide +kernel
theorem dX5_placeTrough_18 : decode cX5_placeTrough 18 = .ok (.iadd, 1) := by decide +kernel
theorem dX5_placeTrough_19 : decode cX5_placeTrough 19 = .ok (.putfield 40, 3) := by decide +kernel
theorem dX5_placeTrough_22 : decode cX5_placeTrough 22 = .ok (.aload_n 0, 1) := by decide +kernel
theorem dX5_placeTrough_23 : decode cX5_placeTrough 23 = .ok (.getfield 40, 3) := by decide +kernel
theorem dX5_placeTrough_26 : decode cX5_placeTrough 26 = .ok (.iconst 1, 1) := by decide +kernel
theorem dX5_placeTrough_27 : decode cX5_placeTrough 27 = .ok (.isub, 1) := by decide +kernel
theorem dX5_placeTrough_28 : decode cX5_placeTrough 28 = .ok (.ireturn, 1) := by decide +kernel
theorem dX5_hasRoomForProbe_0 : decode cX5_hasRoomForProbe 0 = .ok (.aload_n 0, 1) := by decide +kernel
theorem dX5_hasRoomForProbe_1 : decode cX5_hasRoomForProbe 1 = .ok (.getfield 44, 3) := by decide +kernel
theorem dX5_hasRoomForProbe_4 : decode cX5_hasRoomForProbe 4 = .ok (.bipush 6, 2) := by decide +kernel
theorem dX5_hasRoomForProbe_6 : decode cX5_hasRoomForProbe 6 = .ok (.if_icmp .ge 7, 3) := by decide +kernel
theorem dX5_hasRoomForProbe_9 : decode cX5_hasRoomForProbe 9 = .ok (.iconst 1, 1) := by decide +kernel
theorem dX5_hasRoomForProbe_10 : decode cX5_hasRoomForProbe 10 = .ok (.goto 4, 3) := by decide +kernel
theorem dX5_hasRoomForProbe_13 : decode cX5_hasRoomForProbe 13 = .ok (.iconst 0, 1) := by decide +kernel
theorem dX5_hasRoomForProbe_14 : decode cX5_hasRoomForProbe 14 = .ok (.ireturn, 1) := by decide +kernel
theorem dX5_placeProbe_0 : decode cX5_placeProbe 0 = .ok (.aload_n 0, 1) := by decide +kernel
theorem dX5_placeProbe_1 : decode cX5_placeProbe 1 = .ok (.aload_n 0, 1) := by decide +kernel
theorem dX5_placeProbe_2 : decode cX5_placeProbe 2 = .ok (.getfield 44, 3) := by decide +kernel
theorem dX5_placeProbe_5 : decode cX5_placeProbe 5 = .ok (.invokevirtual 85, 3) := by decide +kernel
theorem dX5_placeProbe_8 : decode cX5_placeProbe 8 = .ok (.astore 4, 2) := by decide +kernel
theorem dX5_placeProbe_10 : decode cX5_placeProbe 10 = .ok (.aload 4, 2) := by decide +kernel
theorem dX5_placeProbe_12 : decode cX5_placeProbe 12 = .ok (.iload_n 1, 1) := by decide +kernel
theorem dX5_placeProbe_13 : decode cX5_placeProbe 13 = .ok (.putfield 89, 3) := by decide +kernel
theorem dX5_placeProbe_16 : decode cX5_placeProbe 16 = .ok (.aload 4, 2) := by decide +kernel
theorem dX5_placeProbe_18 : decode cX5_placeProbe 18 = .ok (.iload_n 2, 1) := by decide +kernel
theorem dX5_placeProbe_19 : decode cX5_placeProbe 19 = .ok (.putfield 92, 3) := by decide +kernel
theorem dX5_placeProbe_22 : decode cX5_placeProbe 22 = .ok (.aload 4, 2) := by decide +kernel
theorem dX5_placeProbe_24 : decode cX5_placeProbe 24 = .ok (.iload_n 3, 1) := by decide +kernel
theorem dX5_placeProbe_25 : decode cX5_placeProbe 25 = .ok (.putfield 95, 3) := by decide +kernel
theorem dX5_placeProbe_28 : decode cX5_placeProbe 28 = .ok (.aload_n 0, 1) := by decide +kernel
theorem dX5_placeProbe_29 : decode cX5_placeProbe 29 = .ok (.dup, 1) := by decide +kernel
theorem dX5_placeProbe_30 : decode cX5_placeProbe 30 = .ok (.getfield 44, 3) := by decide +kernel
theorem dX5_placeProbe_33 : decode cX5_placeProbe 33 = .ok (.iconst 1, 1) := by decide +kernel
theorem dX5_placeProbe_34 : decode cX5_placeProbe 34 = .ok (.iadd, 1) := by decide +kernel
theorem dX5_placeProbe_35 : decode cX5_placeProbe 35 = .ok (.putfield 44, 3) := by decide +kernel
theorem dX5_placeProbe_38 : decode cX5_placeProbe 38 = .ok (.aload_n 0, 1) := by decide +kernel
theorem dX5_placeProbe_39 : decode cX5_placeProbe 39 = .ok (.getfield 44, 3) := by decide +kernel
theorem dX5_placeProbe_42 : decode cX5_placeProbe 42 = .ok (.iconst 1, 1) := by decide +kernel
theorem dX5_placeProbe_43 : decode cX5_placeProbe 43 = .ok (.isub, 1) := by decide +kernel
theorem dX5_placeProbe_44 : decode cX5_placeProbe 44 = .ok (.ireturn, 1) := by decide +kernel
theorem dX5_aimAt_0 : decode cX5_aimAt 0 = .ok (.aload_n 0, 1) := by decide +kernel
theorem dX5_aimAt_1 : decode cX5_aimAt 1 = .ok (.iload_n 1, 1) := by decide +kernel
theorem dX5_aimAt_2 : decode cX5_aimAt 2 = .ok (.putfield 47, 3) := by decide +kernel
theorem dX5_aimAt_5 : decode cX5_aimAt 5 = .ok (.aload_n 0, 1) := by decide +kernel
theorem dX5_aimAt_6 : decode cX5_aimAt 6 = .ok (.iload_n 2, 1) := by decide +kernel
theorem dX5_aimAt_7 : decode cX5_aimAt 7 = .ok (.putfield 50, 3) := by decide +kernel
theorem dX5_aimAt_10 : decode cX5_aimAt 10 = .ok (.return_, 1) := by decide +kernel
theorem dX5_putLeaf_0 : decode cX5_putLeaf 0 = .ok (.aload_n 1, 1) := by decide +kernel
theorem dX5_putLeaf_1 : decode cX5_putLeaf 1 = .ok (.iload_n 2, 1) := by decide +kernel
theorem dX5_putLeaf_2 : decode cX5_putLeaf 2 = .ok (.iload_n 3, 1) := by decide +kernel
theorem dX5_putLeaf_3 : decode cX5_putLeaf 3 = .ok (.invokevirtual 98, 3) := by decide +kernel
theorem dX5_putLeaf_6 : decode cX5_putLeaf 6 = .ok (.aload_n 0, 1) := by decide +kernel
theorem dX5_putLeaf_7 : decode cX5_putLeaf 7 = .ok (.dup, 1) := by decide +kernel
theorem dX5_putLeaf_8 : decode cX5_putLeaf 8 = .ok (.getfield 53, 3) := by decide +kernel
theorem dX5_putLeaf_11 : decode cX5_putLeaf 11 = .ok (.iload_n 2, 1) := by decide +kernel
theorem dX5_putLeaf_12 : decode cX5_putLeaf 12 = .ok (.iadd, 1) := by decide +kernel
theorem dX5_putLeaf_13 : decode cX5_putLeaf 13 = .ok (.putfield 53, 3) := by decide +kernel
theorem dX5_putLeaf_16 : decode cX5_putLeaf 16 = .ok (.return_, 1) := by decide +kernel
theorem dX5_dischargeLeaf_0 : decode cX5_dischargeLeaf 0 = .ok (.aload_n 1, 1) := by decide +kernel
theorem dX5_dischargeLeaf_1 : decode cX5_dischargeLeaf 1 = .ok (.getfield 102, 3) := by decide +kernel
theorem dX5_dischargeLeaf_4 : decode cX5_dischargeLeaf 4 = .ok (.aload_n 1, 1) := by decide +kernel
theorem dX5_dischargeLeaf_5 : decode cX5_dischargeLeaf 5 = .ok (.invokevirtual 105, 3) := by decide +kernel
theorem dX5_dischargeLeaf_8 : decode cX5_dischargeLeaf 8 = .ok (.imul, 1) := by decide +kernel
theorem dX5_dischargeLeaf_9 : decode cX5_dischargeLeaf 9 = .ok (.bipush 100, 2) := by decide +kernel
theorem dX5_dischargeLeaf_11 : decode cX5_dischargeLeaf 11 = .ok (.idiv, 1) := by decide +kernel
theorem dX5_dischargeLeaf_12 : decode cX5_dischargeLeaf 12 = .ok (.istore_n 2, 1) := by decide +kernel
theorem dX5_dischargeLeaf_13 : decode cX5_dischargeLeaf 13 = .ok (.aload_n 0, 1) := by decide +kernel
theorem dX5_dischargeLeaf_14 : decode cX5_dischargeLeaf 14 = .ok (.dup, 1) := by decide +kernel
theorem dX5_dischargeLeaf_15 : decode cX5_dischargeLeaf 15 = .ok (.getfield 65, 3) := by decide +kernel
theorem dX5_dischargeLeaf_18 : decode cX5_dischargeLeaf 18 = .ok (.iload_n 2, 1) := by decide +kernel
theorem dX5_dischargeLeaf_19 : decode cX5_dischargeLeaf 19 = .ok (.iadd, 1) := by decide +kernel
theorem dX5_dischargeLeaf_20 : decode cX5_dischargeLeaf 20 = .ok (.putfield 65, 3) := by decide +kernel
theorem dX5_dischargeLeaf_23 : decode cX5_dischargeLeaf 23 = .ok (.aload_n 0, 1) := by decide +kernel
theorem dX5_dischargeLeaf_24 : decode cX5_dischargeLeaf 24 = .ok (.dup, 1) := by decide +kernel
theorem dX5_dischargeLeaf_25 : decode cX5_dischargeLeaf 25 = .ok (.getfield 56, 3) := by decide +kernel
theorem dX5_dischargeLeaf_28 : decode cX5_dischargeLeaf 28 = .ok (.aload_n 1, 1) := by decide +kernel
theorem dX5_dischargeLeaf_29 : decode cX5_dischargeLeaf 29 = .ok (.getfield 102, 3) := by decide +kernel
theorem dX5_dischargeLeaf_32 : decode cX5_dischargeLeaf 32 = .ok (.iadd, 1) := by decide +kernel
theorem dX5_dischargeLeaf_33 : decode cX5_dischargeLeaf 33 = .ok (.putfield 56, 3) := by decide +kernel
theorem dX5_dischargeLeaf_36 : decode cX5_dischargeLeaf 36 = .ok (.aload_n 0, 1) := by decide +kernel
theorem dX5_dischargeLeaf_37 : decode cX5_dischargeLeaf 37 = .ok (.dup, 1) := by decide +kernel
theorem dX5_dischargeLeaf_38 : decode cX5_dischargeLeaf 38 = .ok (.getfield 62, 3) := by decide +kernel
theorem dX5_dischargeLeaf_41 : decode cX5_dischargeLeaf 41 = .ok (.aload_n 1, 1) := by decide +kernel
theorem dX5_dischargeLeaf_42 : decode cX5_dischargeLeaf 42 = .ok (.getfield 109, 3) := by decide +kernel
theorem dX5_dischargeLeaf_45 : decode cX5_dischargeLeaf 45 = .ok (.iadd, 1) := by decide +kernel
theorem dX5_dischargeLeaf_46 : decode cX5_dischargeLeaf 46 = .ok (.putfield 62, 3) := by decide +kernel
theorem dX5_dischargeLeaf_49 : decode cX5_dischargeLeaf 49 = .ok (.aload_n 1, 1) := by decide +kernel
theorem dX5_dischargeLeaf_50 : decode cX5_dischargeLeaf 50 = .ok (.invokevirtual 112, 3) := by decide +kernel
theorem dX5_dischargeLeaf_53 : decode cX5_dischargeLeaf 53 = .ok (.iload_n 2, 1) := by decide +kernel
theorem dX5_dischargeLeaf_54 : decode cX5_dischargeLeaf 54 = .ok (.ireturn, 1) := by decide +kernel
theorem dX5_discardLeaf_0 : decode cX5_discardLeaf 0 = .ok (.aload_n 1, 1) := by decide +kernel
theorem dX5_discardLeaf_1 : decode cX5_discardLeaf 1 = .ok (.getfield 102, 3) := by decide +kernel
theorem dX5_discardLeaf_4 : decode cX5_discardLeaf 4 = .ok (.istore_n 2, 1) := by decide +kernel
theorem dX5_discardLeaf_5 : decode cX5_discardLeaf 5 = .ok (.aload_n 0, 1) := by decide +kernel
theorem dX5_discardLeaf_6 : decode cX5_discardLeaf 6 = .ok (.dup, 1) := by decide +kernel
theorem dX5_discardLeaf_7 : decode cX5_discardLeaf 7 = .ok (.getfield 59, 3) := by decide +kernel
theorem dX5_discardLeaf_10 : decode cX5_discardLeaf 10 = .ok (.iload_n 2, 1) := by decide +kernel
theorem dX5_discardLeaf_11 : decode cX5_discardLeaf 11 = .ok (.iadd, 1) := by decide +kernel
theorem dX5_discardLeaf_12 : decode cX5_discardLeaf 12 = .ok (.putfield 59, 3) := by decide +kernel
theorem dX5_discardLeaf_15 : decode cX5_discardLeaf 15 = .ok (.aload_n 0, 1) := by decide +kernel
theorem dX5_discardLeaf_16 : decode cX5_discardLeaf 16 = .ok (.dup, 1) := by decide +kernel
theorem dX5_discardLeaf_17 : decode cX5_discardLeaf 17 = .ok (.getfield 62, 3) := by decide +kernel
theorem dX5_discardLeaf_20 : decode cX5_discardLeaf 20 = .ok (.aload_n 1, 1) := by decide +kernel
theorem dX5_discardLeaf_21 : decode cX5_discardLeaf 21 = .ok (.getfield 109, 3) := by decide +kernel
theorem dX5_discardLeaf_24 : decode cX5_discardLeaf 24 = .ok (.iadd, 1) := by decide +kernel
theorem dX5_discardLeaf_25 : decode cX5_discardLeaf 25 = .ok (.putfield 62, 3) := by decide +kernel
theorem dX5_discardLeaf_28 : decode cX5_discardLeaf 28 = .ok (.aload_n 1, 1) := by decide +kernel
theorem dX5_discardLeaf_29 : decode cX5_discardLeaf 29 = .ok (.invokevirtual 112, 3) := by decide +kernel
theorem dX5_discardLeaf_32 : decode cX5_discardLeaf 32 = .ok (.iload_n 2, 1) := by decide +kernel
theorem dX5_discardLeaf_33 : decode cX5_discardLeaf 33 = .ok (.ireturn, 1) := by decide +kernel
theorem dX5_letHoursPass_0 : decode cX5_letHoursPass 0 = .ok (.iconst 0, 1) := by decide +kernel
theorem dX5_letHoursPass_1 : decode cX5_letHoursPass 1 = .ok (.istore_n 2, 1) := by decide +kernel
theorem dX5_letHoursPass_2 : decode cX5_letHoursPass 2 = .ok (.iload_n 2, 1) := by decide +kernel
theorem dX5_letHoursPass_3 : decode cX5_letHoursPass 3 = .ok (.iload_n 1, 1) := by decide +kernel
theorem dX5_letHoursPass_4 : decode cX5_letHoursPass 4 = .ok (.if_icmp .ge 99, 3) := by decide +kernel
theorem dX5_letHoursPass_7 : decode cX5_letHoursPass 7 = .ok (.aload_n 0, 1) := by decide +kernel
theorem dX5_letHoursPass_8 : decode cX5_letHoursPass 8 = .ok (.getfield 12, 3) := by decide +kernel
theorem dX5_letHoursPass_11 : decode cX5_letHoursPass 11 = .ok (.aload_n 0, 1) := by decide +kernel
theorem dX5_letHoursPass_12 : decode cX5_letHoursPass 12 = .ok (.getfield 12, 3) := by decide +kernel
theorem dX5_letHoursPass_15 : decode cX5_letHoursPass 15 = .ok (.getfield 115, 3) := by decide +kernel
theorem dX5_letHoursPass_18 : decode cX5_letHoursPass 18 = .ok (.invokevirtual 118, 3) := by decide +kernel
theorem dX5_letHoursPass_21 : decode cX5_letHoursPass 21 = .ok (.istore_n 3, 1) := by decide +kernel
theorem dX5_letHoursPass_22 : decode cX5_letHoursPass 22 = .ok (.iconst 0, 1) := by decide +kernel
theorem dX5_letHoursPass_23 : decode cX5_letHoursPass 23 = .ok (.istore 4, 2) := by decide +kernel
theorem dX5_letHoursPass_25 : decode cX5_letHoursPass 25 = .ok (.iload 4, 2) := by decide +kernel
theorem dX5_letHoursPass_27 : decode cX5_letHoursPass 27 = .ok (.aload_n 0, 1) := by decide +kernel
theorem dX5_letHoursPass_28 : decode cX5_letHoursPass 28 = .ok (.getfield 40, 3) := by decide +kernel
theorem dX5_letHoursPass_31 : decode cX5_letHoursPass 31 = .ok (.if_icmp .ge 36, 3) := by decide +kernel
theorem dX5_letHoursPass_34 : decode cX5_letHoursPass 34 = .ok (.iload 4, 2) := by decide +kernel
theorem dX5_letHoursPass_36 : decode cX5_letHoursPass 36 = .ok (.bipush 8, 2) := by decide +kernel
theorem dX5_letHoursPass_38 : decode cX5_letHoursPass 38 = .ok (.if_icmp .ge 29, 3) := by decide +kernel
theorem dX5_letHoursPass_41 : decode cX5_letHoursPass 41 = .ok (.aload_n 0, 1) := by decide +kernel
theorem dX5_letHoursPass_42 : decode cX5_letHoursPass 42 = .ok (.dup, 1) := by decide +kernel
theorem dX5_letHoursPass_43 : decode cX5_letHoursPass 43 = .ok (.getfield 68, 3) := by decide +kernel
theorem dX5_letHoursPass_46 : decode cX5_letHoursPass 46 = .ok (.aload_n 0, 1) := by decide +kernel
theorem dX5_letHoursPass_47 : decode cX5_letHoursPass 47 = .ok (.getfield 20, 3) := by decide +kernel
theorem dX5_letHoursPass_50 : decode cX5_letHoursPass 50 = .ok (.iload 4, 2) := by decide +kernel
theorem dX5_letHoursPass_52 : decode cX5_letHoursPass 52 = .ok (.aaload, 1) := by decide +kernel
theorem dX5_letHoursPass_53 : decode cX5_letHoursPass 53 = .ok (.iload_n 3, 1) := by decide +kernel
theorem dX5_letHoursPass_54 : decode cX5_letHoursPass 54 = .ok (.invokevirtual 122, 3) := by decide +kernel
theorem dX5_letHoursPass_57 : decode cX5_letHoursPass 57 = .ok (.iadd, 1) := by decide +kernel
theorem dX5_letHoursPass_58 : decode cX5_letHoursPass 58 = .ok (.putfield 68, 3) := by decide +kernel
theorem dX5_letHoursPass_61 : decode cX5_letHoursPass 61 = .ok (.iinc 4 1, 3) := by decide +kernel
theorem dX5_letHoursPass_64 : decode cX5_letHoursPass 64 = .ok (.goto (-39), 3) := by decide +kernel
theorem dX5_letHoursPass_67 : decode cX5_letHoursPass 67 = .ok (.aload_n 0, 1) := by decide +kernel
theorem dX5_letHoursPass_68 : decode cX5_letHoursPass 68 = .ok (.getfield 12, 3) := by decide +kernel
theorem dX5_letHoursPass_71 : decode cX5_letHoursPass 71 = .ok (.dup, 1) := by decide +kernel
theorem dX5_letHoursPass_72 : decode cX5_letHoursPass 72 = .ok (.getfield 115, 3) := by decide +kernel
theorem dX5_letHoursPass_75 : decode cX5_letHoursPass 75 = .ok (.iconst 1, 1) := by decide +kernel
theorem dX5_letHoursPass_76 : decode cX5_letHoursPass 76 = .ok (.iadd, 1) := by decide +kernel
theorem dX5_letHoursPass_77 : decode cX5_letHoursPass 77 = .ok (.putfield 115, 3) := by decide +kernel
theorem dX5_letHoursPass_80 : decode cX5_letHoursPass 80 = .ok (.aload_n 0, 1) := by decide +kernel
theorem dX5_letHoursPass_81 : decode cX5_letHoursPass 81 = .ok (.getfield 12, 3) := by decide +kernel
theorem dX5_letHoursPass_84 : decode cX5_letHoursPass 84 = .ok (.getfield 115, 3) := by decide +kernel
theorem dX5_letHoursPass_87 : decode cX5_letHoursPass 87 = .ok (.bipush 24, 2) := by decide +kernel
theorem dX5_letHoursPass_89 : decode cX5_letHoursPass 89 = .ok (.irem, 1) := by decide +kernel
theorem dX5_letHoursPass_90 : decode cX5_letHoursPass 90 = .ok (.ifCond .ne 7, 3) := by decide +kernel
theorem dX5_letHoursPass_93 : decode cX5_letHoursPass 93 = .ok (.aload_n 0, 1) := by decide +kernel
theorem dX5_letHoursPass_94 : decode cX5_letHoursPass 94 = .ok (.invokevirtual 125, 3) := by decide +kernel
theorem dX5_letHoursPass_97 : decode cX5_letHoursPass 97 = .ok (.iinc 2 1, 3) := by decide +kernel
theorem dX5_letHoursPass_100 : decode cX5_letHoursPass 100 = .ok (.goto (-98), 3) := by decide +kernel
theorem dX5_letHoursPass_103 : decode cX5_letHoursPass 103 = .ok (.return_, 1) := by decide +kernel
theorem dX5_ageProbes_0 : decode cX5_ageProbes 0 = .ok (.iconst 0, 1) := by decide +kernel
theorem dX5_ageProbes_1 : decode cX5_ageProbes 1 = .ok (.istore_n 1, 1) := by decide +kernel
theorem dX5_ageProbes_2 : decode cX5_ageProbes 2 = .ok (.iload_n 1, 1) := by decide +kernel
theorem dX5_ageProbes_3 : decode cX5_ageProbes 3 = .ok (.aload_n 0, 1) := by decide +kernel
theorem dX5_ageProbes_4 : decode cX5_ageProbes 4 = .ok (.getfield 44, 3) := by decide +kernel
theorem dX5_ageProbes_7 : decode cX5_ageProbes 7 = .ok (.if_icmp .ge 44, 3) := by decide +kernel
theorem dX5_ageProbes_10 : decode cX5_ageProbes 10 = .ok (.iload_n 1, 1) := by decide +kernel
theorem dX5_ageProbes_11 : decode cX5_ageProbes 11 = .ok (.bipush 6, 2) := by decide +kernel
theorem dX5_ageProbes_13 : decode cX5_ageProbes 13 = .ok (.if_icmp .ge 38, 3) := by decide +kernel
theorem dX5_ageProbes_16 : decode cX5_ageProbes 16 = .ok (.aload_n 0, 1) := by decide +kernel
theorem dX5_ageProbes_17 : decode cX5_ageProbes 17 = .ok (.getfield 26, 3) := by decide +kernel
theorem dX5_ageProbes_20 : decode cX5_ageProbes 20 = .ok (.iload_n 1, 1) := by decide +kernel
theorem dX5_ageProbes_21 : decode cX5_ageProbes 21 = .ok (.aaload, 1) := by decide +kernel
theorem dX5_ageProbes_22 : decode cX5_ageProbes 22 = .ok (.getfield 95, 3) := by decide +kernel
theorem dX5_ageProbes_25 : decode cX5_ageProbes 25 = .ok (.bipush 50, 2) := by decide +kernel
theorem dX5_ageProbes_27 : decode cX5_ageProbes 27 = .ok (.if_icmp .ge 18, 3) := by decide +kernel
theorem dX5_ageProbes_30 : decode cX5_ageProbes 30 = .ok (.aload_n 0, 1) := by decide +kernel
theorem dX5_ageProbes_31 : decode cX5_ageProbes 31 = .ok (.getfield 26, 3) := by decide +kernel
theorem dX5_ageProbes_34 : decode cX5_ageProbes 34 = .ok (.iload_n 1, 1) := by decide +kernel
theorem dX5_ageProbes_35 : decode cX5_ageProbes 35 = .ok (.aaload, 1) := by decide +kernel
theorem dX5_ageProbes_36 : decode cX5_ageProbes 36 = .ok (.dup, 1) := by decide +kernel
theorem dX5_ageProbes_37 : decode cX5_ageProbes 37 = .ok (.getfield 95, 3) := by decide +kernel
theorem dX5_ageProbes_40 : decode cX5_ageProbes 40 = .ok (.iconst 1, 1) := by decide +kernel
theorem dX5_ageProbes_41 : decode cX5_ageProbes 41 = .ok (.iadd, 1) := by decide +kernel
theorem dX5_ageProbes_42 : decode cX5_ageProbes 42 = .ok (.putfield 95, 3) := by decide +kernel
theorem dX5_ageProbes_45 : decode cX5_ageProbes 45 = .ok (.iinc 1 1, 3) := by decide +kernel
theorem dX5_ageProbes_48 : decode cX5_ageProbes 48 = .ok (.goto (-46), 3) := by decide +kernel
theorem dX5_ageProbes_51 : decode cX5_ageProbes 51 = .ok (.return_, 1) := by decide +kernel
theorem dX5_isTooDry_0 : decode cX5_isTooDry 0 = .ok (.aload_n 1, 1) := by decide +kernel
theorem dX5_isTooDry_1 : decode cX5_isTooDry 1 = .ok (.getfield 128, 3) := by decide +kernel
theorem dX5_isTooDry_4 : decode cX5_isTooDry 4 = .ok (.aload_n 0, 1) := by decide +kernel
theorem dX5_isTooDry_5 : decode cX5_isTooDry 5 = .ok (.getfield 47, 3) := by decide +kernel
theorem dX5_isTooDry_8 : decode cX5_isTooDry 8 = .ok (.aload_n 0, 1) := by decide +kernel
theorem dX5_isTooDry_9 : decode cX5_isTooDry 9 = .ok (.getfield 50, 3) := by decide +kernel
theorem dX5_isTooDry_12 : decode cX5_isTooDry 12 = .ok (.isub, 1) := by decide +kernel
theorem dX5_isTooDry_13 : decode cX5_isTooDry 13 = .ok (.if_icmp .lt 19, 3) := by decide +kernel
theorem dX5_isTooDry_16 : decode cX5_isTooDry 16 = .ok (.aload_n 1, 1) := by decide +kernel
theorem dX5_isTooDry_17 : decode cX5_isTooDry 17 = .ok (.getfield 131, 3) := by decide +kernel
theorem dX5_isTooDry_20 : decode cX5_isTooDry 20 = .ok (.aload_n 0, 1) := by decide +kernel
theorem dX5_isTooDry_21 : decode cX5_isTooDry 21 = .ok (.getfield 47, 3) := by decide +kernel
theorem dX5_isTooDry_24 : decode cX5_isTooDry 24 = .ok (.aload_n 0, 1) := by decide +kernel
theorem dX5_isTooDry_25 : decode cX5_isTooDry 25 = .ok (.getfield 50, 3) := by decide +kernel
theorem dX5_isTooDry_28 : decode cX5_isTooDry 28 = .ok (.isub, 1) := by decide +kernel
theorem dX5_isTooDry_29 : decode cX5_isTooDry 29 = .ok (.if_icmp .ge 7, 3) := by decide +kernel
theorem dX5_isTooDry_32 : decode cX5_isTooDry 32 = .ok (.iconst 1, 1) := by decide +kernel
theorem dX5_isTooDry_33 : decode cX5_isTooDry 33 = .ok (.goto 4, 3) := by decide +kernel
theorem dX5_isTooDry_36 : decode cX5_isTooDry 36 = .ok (.iconst 0, 1) := by decide +kernel
theorem dX5_isTooDry_37 : decode cX5_isTooDry 37 = .ok (.ireturn, 1) := by decide +kernel
theorem dX5_isReady_0 : decode cX5_isReady 0 = .ok (.aload_n 1, 1) := by decide +kernel
theorem dX5_isReady_1 : decode cX5_isReady 1 = .ok (.invokevirtual 134, 3) := by decide +kernel
theorem dX5_isReady_4 : decode cX5_isReady 4 = .ok (.ifCond .eq 47, 3) := by decide +kernel
theorem dX5_isReady_7 : decode cX5_isReady 7 = .ok (.aload_n 0, 1) := by decide +kernel
theorem dX5_isReady_8 : decode cX5_isReady 8 = .ok (.aload_n 1, 1) := by decide +kernel
theorem dX5_isReady_9 : decode cX5_isReady 9 = .ok (.invokevirtual 138, 3) := by decide +kernel
theorem dX5_isReady_12 : decode cX5_isReady 12 = .ok (.ifCond .ne 39, 3) := by decide +kernel
theorem dX5_isReady_15 : decode cX5_isReady 15 = .ok (.aload_n 1, 1) := by decide +kernel
theorem dX5_isReady_16 : decode cX5_isReady 16 = .ok (.getfield 128, 3) := by decide +kernel
theorem dX5_isReady_19 : decode cX5_isReady 19 = .ok (.aload_n 0, 1) := by decide +kernel
theorem dX5_isReady_20 : decode cX5_isReady 20 = .ok (.getfield 47, 3) := by decide +kernel
theorem dX5_isReady_23 : decode cX5_isReady 23 = .ok (.aload_n 0, 1) := by decide +kernel
theorem dX5_isReady_24 : decode cX5_isReady 24 = .ok (.getfield 50, 3) := by decide +kernel
theorem dX5_isReady_27 : decode cX5_isReady 27 = .ok (.iadd, 1) := by decide +kernel
theorem dX5_isReady_28 : decode cX5_isReady 28 = .ok (.if_icmp .gt 23, 3) := by decide +kernel
theorem dX5_isReady_31 : decode cX5_isReady 31 = .ok (.aload_n 1, 1) := by decide +kernel
theorem dX5_isReady_32 : decode cX5_isReady 32 = .ok (.getfield 131, 3) := by decide +kernel
theorem dX5_isReady_35 : decode cX5_isReady 35 = .ok (.aload_n 0, 1) := by decide +kernel
theorem dX5_isReady_36 : decode cX5_isReady 36 = .ok (.getfield 47, 3) := by decide +kernel
theorem dX5_isReady_39 : decode cX5_isReady 39 = .ok (.aload_n 0, 1) := by decide +kernel
theorem dX5_isReady_40 : decode cX5_isReady 40 = .ok (.getfield 50, 3) := by decide +kernel
theorem dX5_isReady_43 : decode cX5_isReady 43 = .ok (.iadd, 1) := by decide +kernel
theorem dX5_isReady_44 : decode cX5_isReady 44 = .ok (.if_icmp .gt 7, 3) := by decide +kernel
theorem dX5_isReady_47 : decode cX5_isReady 47 = .ok (.iconst 1, 1) := by decide +kernel
theorem dX5_isReady_48 : decode cX5_isReady 48 = .ok (.goto 4, 3) := by decide +kernel
theorem dX5_isReady_51 : decode cX5_isReady 51 = .ok (.iconst 0, 1) := by decide +kernel
theorem dX5_isReady_52 : decode cX5_isReady 52 = .ok (.ireturn, 1) := by decide +kernel
theorem dX5_refusalOf_0 : decode cX5_refusalOf 0 = .ok (.aload_n 1, 1) := by decide +kernel
theorem dX5_refusalOf_1 : decode cX5_refusalOf 1 = .ok (.invokevirtual 134, 3) := by decide +kernel
theorem dX5_refusalOf_4 : decode cX5_refusalOf 4 = .ok (.ifCond .ne 5, 3) := by decide +kernel
theorem dX5_refusalOf_7 : decode cX5_refusalOf 7 = .ok (.iconst 1, 1) := by decide +kernel
theorem dX5_refusalOf_8 : decode cX5_refusalOf 8 = .ok (.ireturn, 1) := by decide +kernel
theorem dX5_refusalOf_9 : decode cX5_refusalOf 9 = .ok (.aload_n 0, 1) := by decide +kernel
theorem dX5_refusalOf_10 : decode cX5_refusalOf 10 = .ok (.aload_n 1, 1) := by decide +kernel
theorem dX5_refusalOf_11 : decode cX5_refusalOf 11 = .ok (.invokevirtual 138, 3) := by decide +kernel
theorem dX5_refusalOf_14 : decode cX5_refusalOf 14 = .ok (.ifCond .eq 5, 3) := by decide +kernel
theorem dX5_refusalOf_17 : decode cX5_refusalOf 17 = .ok (.iconst 2, 1) := by decide +kernel
theorem dX5_refusalOf_18 : decode cX5_refusalOf 18 = .ok (.ireturn, 1) := by decide +kernel
theorem dX5_refusalOf_19 : decode cX5_refusalOf 19 = .ok (.aload_n 0, 1) := by decide +kernel
theorem dX5_refusalOf_20 : decode cX5_refusalOf 20 = .ok (.aload_n 1, 1) := by decide +kernel
theorem dX5_refusalOf_21 : decode cX5_refusalOf 21 = .ok (.invokevirtual 142, 3) := by decide +kernel
theorem dX5_refusalOf_24 : decode cX5_refusalOf 24 = .ok (.ifCond .eq 7, 3) := by decide +kernel
theorem dX5_refusalOf_27 : decode cX5_refusalOf 27 = .ok (.iconst 0, 1) := by decide +kernel
theorem dX5_refusalOf_28 : decode cX5_refusalOf 28 = .ok (.goto 4, 3) := by decide +kernel
theorem dX5_refusalOf_31 : decode cX5_refusalOf 31 = .ok (.iconst 3, 1) := by decide +kernel
theorem dX5_refusalOf_32 : decode cX5_refusalOf 32 = .ok (.ireturn, 1) := by decide +kernel
theorem dX5_setOfReady_0 : decode cX5_setOfReady 0 = .ok (.iconst 0, 1) := by decide +kernel
theorem dX5_setOfReady_1 : decode cX5_setOfReady 1 = .ok (.istore_n 1, 1) := by decide +kernel
theorem dX5_setOfReady_2 : decode cX5_setOfReady 2 = .ok (.iconst 0, 1) := by decide +kernel
theorem dX5_setOfReady_3 : decode cX5_setOfReady 3 = .ok (.istore_n 2, 1) := by decide +kernel
theorem dX5_setOfReady_4 : decode cX5_setOfReady 4 = .ok (.iload_n 2, 1) := by decide +kernel
theorem dX5_setOfReady_5 : decode cX5_setOfReady 5 = .ok (.bipush 8, 2) := by decide +kernel
theorem dX5_setOfReady_7 : decode cX5_setOfReady 7 = .ok (.if_icmp .ge 28, 3) := by decide +kernel
theorem dX5_setOfReady_10 : decode cX5_setOfReady 10 = .ok (.aload_n 0, 1) := by decide +kernel
theorem dX5_setOfReady_11 : decode cX5_setOfReady 11 = .ok (.aload_n 0, 1) := by decide +kernel
theorem dX5_setOfReady_12 : decode cX5_setOfReady 12 = .ok (.getfield 20, 3) := by decide +kernel
theorem dX5_setOfReady_15 : decode cX5_setOfReady 15 = .ok (.iload_n 2, 1) := by decide +kernel
theorem dX5_setOfReady_16 : decode cX5_setOfReady 16 = .ok (.aaload, 1) := by decide +kernel
theorem dX5_setOfReady_17 : decode cX5_setOfReady 17 = .ok (.invokevirtual 142, 3) := by decide +kernel
theorem dX5_setOfReady_20 : decode cX5_setOfReady 20 = .ok (.ifCond .eq 9, 3) := by decide +kernel
theorem dX5_setOfReady_23 : decode cX5_setOfReady 23 = .ok (.iload_n 1, 1) := by decide +kernel
theorem dX5_setOfReady_24 : decode cX5_setOfReady 24 = .ok (.iconst 1, 1) := by decide +kernel
theorem dX5_setOfReady_25 : decode cX5_setOfReady 25 = .ok (.iload_n 2, 1) := by decide +kernel
theorem dX5_setOfReady_26 : decode cX5_setOfReady 26 = .ok (.ishl, 1) := by decide +kernel
theorem dX5_setOfReady_27 : decode cX5_setOfReady 27 = .ok (.ior, 1) := by decide +kernel
theorem dX5_setOfReady_28 : decode cX5_setOfReady 28 = .ok (.istore_n 1, 1) := by decide +kernel
theorem dX5_setOfReady_29 : decode cX5_setOfReady 29 = .ok (.iinc 2 1, 3) := by decide +kernel
theorem dX5_setOfReady_32 : decode cX5_setOfReady 32 = .ok (.goto (-28), 3) := by decide +kernel
theorem dX5_setOfReady_35 : decode cX5_setOfReady 35 = .ok (.iload_n 1, 1) := by decide +kernel
theorem dX5_setOfReady_36 : decode cX5_setOfReady 36 = .ok (.ireturn, 1) := by decide +kernel
theorem dX5_readingOf_0 : decode cX5_readingOf 0 = .ok (.aload_n 0, 1) := by decide +kernel
theorem dX5_readingOf_1 : decode cX5_readingOf 1 = .ok (.aload_n 1, 1) := by decide +kernel
theorem dX5_readingOf_2 : decode cX5_readingOf 2 = .ok (.getfield 89, 3) := by decide +kernel
theorem dX5_readingOf_5 : decode cX5_readingOf 5 = .ok (.invokevirtual 81, 3) := by decide +kernel
theorem dX5_readingOf_8 : decode cX5_readingOf 8 = .ok (.astore_n 2, 1) := by decide +kernel
theorem dX5_readingOf_9 : decode cX5_readingOf 9 = .ok (.aload_n 2, 1) := by decide +kernel
theorem dX5_readingOf_10 : decode cX5_readingOf 10 = .ok (.invokevirtual 134, 3) := by decide +kernel
theorem dX5_readingOf_13 : decode cX5_readingOf 13 = .ok (.ifCond .eq 19, 3) := by decide +kernel
theorem dX5_readingOf_16 : decode cX5_readingOf 16 = .ok (.aload_n 2, 1) := by decide +kernel
theorem dX5_readingOf_17 : decode cX5_readingOf 17 = .ok (.aload_n 1, 1) := by decide +kernel
theorem dX5_readingOf_18 : decode cX5_readingOf 18 = .ok (.getfield 92, 3) := by decide +kernel
theorem dX5_readingOf_21 : decode cX5_readingOf 21 = .ok (.invokevirtual 145, 3) := by decide +kernel
theorem dX5_readingOf_24 : decode cX5_readingOf 24 = .ok (.aload_n 1, 1) := by decide +kernel
theorem dX5_readingOf_25 : decode cX5_readingOf 25 = .ok (.getfield 95, 3) := by decide +kernel
theorem dX5_readingOf_28 : decode cX5_readingOf 28 = .ok (.iadd, 1) := by decide +kernel
theorem dX5_readingOf_29 : decode cX5_readingOf 29 = .ok (.goto 4, 3) := by decide +kernel
theorem dX5_readingOf_32 : decode cX5_readingOf 32 = .ok (.iconst (-1), 1) := by decide +kernel
theorem dX5_readingOf_33 : decode cX5_readingOf 33 = .ok (.ireturn, 1) := by decide +kernel
theorem dX5_countViolations_0 : decode cX5_countViolations 0 = .ok (.aload_n 0, 1) := by decide +kernel
theorem dX5_countViolations_1 : decode cX5_countViolations 1 = .ok (.getfield 56, 3) := by decide +kernel
theorem dX5_countViolations_4 : decode cX5_countViolations 4 = .ok (.aload_n 0, 1) := by decide +kernel
theorem dX5_countViolations_5 : decode cX5_countViolations 5 = .ok (.getfield 59, 3) := by decide +kernel
theorem dX5_countViolations_8 : decode cX5_countViolations 8 = .ok (.iadd, 1) := by decide +kernel
theorem dX5_countViolations_9 : decode cX5_countViolations 9 = .ok (.istore_n 1, 1) := by decide +kernel
theorem dX5_countViolations_10 : decode cX5_countViolations 10 = .ok (.aload_n 0, 1) := by decide +kernel
theorem dX5_countViolations_11 : decode cX5_countViolations 11 = .ok (.getfield 62, 3) := by decide +kernel
theorem dX5_countViolations_14 : decode cX5_countViolations 14 = .ok (.aload_n 0, 1) := by decide +kernel
theorem dX5_countViolations_15 : decode cX5_countViolations 15 = .ok (.getfield 68, 3) := by decide +kernel
theorem dX5_countViolations_18 : decode cX5_countViolations 18 = .ok (.iadd, 1) := by decide +kernel
theorem dX5_countViolations_19 : decode cX5_countViolations 19 = .ok (.istore_n 2, 1) := by decide +kernel
theorem dX5_countViolations_20 : decode cX5_countViolations 20 = .ok (.iconst 0, 1) := by decide +kernel
theorem dX5_countViolations_21 : decode cX5_countViolations 21 = .ok (.istore_n 3, 1) := by decide +kernel
theorem dX5_countViolations_22 : decode cX5_countViolations 22 = .ok (.iconst 0, 1) := by decide +kernel
theorem dX5_countViolations_23 : decode cX5_countViolations 23 = .ok (.istore 4, 2) := by decide +kernel
theorem dX5_countViolations_25 : decode cX5_countViolations 25 = .ok (.iload 4, 2) := by decide +kernel
theorem dX5_countViolations_27 : decode cX5_countViolations 27 = .ok (.bipush 8, 2) := by decide +kernel
theorem dX5_countViolations_29 : decode cX5_countViolations 29 = .ok (.if_icmp .ge 48, 3) := by decide +kernel
theorem dX5_countViolations_32 : decode cX5_countViolations 32 = .ok (.iload_n 1, 1) := by decide +kernel
theorem dX5_countViolations_33 : decode cX5_countViolations 33 = .ok (.aload_n 0, 1) := by decide +kernel
theorem dX5_countViolations_34 : decode cX5_countViolations 34 = .ok (.getfield 20, 3) := by decide +kernel
theorem dX5_countViolations_37 : decode cX5_countViolations 37 = .ok (.iload 4, 2) := by decide +kernel
theorem dX5_countViolations_39 : decode cX5_countViolations 39 = .ok (.aaload, 1) := by decide +kernel
theorem dX5_countViolations_40 : decode cX5_countViolations 40 = .ok (.getfield 102, 3) := by decide +kernel
theorem dX5_countViolations_43 : decode cX5_countViolations 43 = .ok (.iadd, 1) := by decide +kernel
theorem dX5_countViolations_44 : decode cX5_countViolations 44 = .ok (.istore_n 1, 1) := by decide +kernel
theorem dX5_countViolations_45 : decode cX5_countViolations 45 = .ok (.iload_n 2, 1) := by decide +kernel
theorem dX5_countViolations_46 : decode cX5_countViolations 46 = .ok (.aload_n 0, 1) := by decide +kernel
theorem dX5_countViolations_47 : decode cX5_countViolations 47 = .ok (.getfield 20, 3) := by decide +kernel
theorem dX5_countViolations_50 : decode cX5_countViolations 50 = .ok (.iload 4, 2) := by decide +kernel
theorem dX5_countViolations_52 : decode cX5_countViolations 52 = .ok (.aaload, 1) := by decide +kernel
theorem dX5_countViolations_53 : decode cX5_countViolations 53 = .ok (.getfield 109, 3) := by decide +kernel
theorem dX5_countViolations_56 : decode cX5_countViolations 56 = .ok (.iadd, 1) := by decide +kernel
theorem dX5_countViolations_57 : decode cX5_countViolations 57 = .ok (.istore_n 2, 1) := by decide +kernel
theorem dX5_countViolations_58 : decode cX5_countViolations 58 = .ok (.iload_n 3, 1) := by decide +kernel
theorem dX5_countViolations_59 : decode cX5_countViolations 59 = .ok (.aload_n 0, 1) := by decide +kernel
theorem dX5_countViolations_60 : decode cX5_countViolations 60 = .ok (.getfield 20, 3) := by decide +kernel
theorem dX5_countViolations_63 : decode cX5_countViolations 63 = .ok (.iload 4, 2) := by decide +kernel
theorem dX5_countViolations_65 : decode cX5_countViolations 65 = .ok (.aaload, 1) := by decide +kernel
theorem dX5_countViolations_66 : decode cX5_countViolations 66 = .ok (.invokevirtual 158, 3) := by decide +kernel
theorem dX5_countViolations_69 : decode cX5_countViolations 69 = .ok (.iadd, 1) := by decide +kernel
theorem dX5_countViolations_70 : decode cX5_countViolations 70 = .ok (.istore_n 3, 1) := by decide +kernel
theorem dX5_countViolations_71 : decode cX5_countViolations 71 = .ok (.iinc 4 1, 3) := by decide +kernel
theorem dX5_countViolations_74 : decode cX5_countViolations 74 = .ok (.goto (-49), 3) := by decide +kernel
theorem dX5_countViolations_77 : decode cX5_countViolations 77 = .ok (.iload_n 3, 1) := by decide +kernel
theorem dX5_countViolations_78 : decode cX5_countViolations 78 = .ok (.aload_n 0, 1) := by decide +kernel
theorem dX5_countViolations_79 : decode cX5_countViolations 79 = .ok (.getfield 53, 3) := by decide +kernel
theorem dX5_countViolations_82 : decode cX5_countViolations 82 = .ok (.iload_n 1, 1) := by decide +kernel
theorem dX5_countViolations_83 : decode cX5_countViolations 83 = .ok (.isub, 1) := by decide +kernel
theorem dX5_countViolations_84 : decode cX5_countViolations 84 = .ok (.invokestatic 161, 3) := by decide +kernel
theorem dX5_countViolations_87 : decode cX5_countViolations 87 = .ok (.iadd, 1) := by decide +kernel
theorem dX5_countViolations_88 : decode cX5_countViolations 88 = .ok (.istore_n 3, 1) := by decide +kernel
theorem dX5_countViolations_89 : decode cX5_countViolations 89 = .ok (.iload_n 3, 1) := by decide +kernel
theorem dX5_countViolations_90 : decode cX5_countViolations 90 = .ok (.aload_n 0, 1) := by decide +kernel
theorem dX5_countViolations_91 : decode cX5_countViolations 91 = .ok (.getfield 53, 3) := by decide +kernel
theorem dX5_countViolations_94 : decode cX5_countViolations 94 = .ok (.sipush 2000, 3) := by decide +kernel
theorem dX5_countViolations_97 : decode cX5_countViolations 97 = .ok (.imul, 1) := by decide +kernel
theorem dX5_countViolations_98 : decode cX5_countViolations 98 = .ok (.iload_n 2, 1) := by decide +kernel
theorem dX5_countViolations_99 : decode cX5_countViolations 99 = .ok (.isub, 1) := by decide +kernel
theorem dX5_countViolations_100 : decode cX5_countViolations 100 = .ok (.invokestatic 161, 3) := by decide +kernel
theorem dX5_countViolations_103 : decode cX5_countViolations 103 = .ok (.iadd, 1) := by decide +kernel
theorem dX5_countViolations_104 : decode cX5_countViolations 104 = .ok (.istore_n 3, 1) := by decide +kernel
theorem dX5_countViolations_105 : decode cX5_countViolations 105 = .ok (.iload_n 3, 1) := by decide +kernel
theorem dX5_countViolations_106 : decode cX5_countViolations 106 = .ok (.ireturn, 1) := by decide +kernel
theorem dX6_init_0 : decode cX6_init 0 = .ok (.aload_n 0, 1) := by decide +kernel
theorem dX6_init_1 : decode cX6_init 1 = .ok (.invokespecial 1, 3) := by decide +kernel
theorem dX6_init_4 : decode cX6_init 4 = .ok (.return_, 1) := by decide +kernel
theorem dX6_become_0 : decode cX6_become 0 = .ok (.aload_n 0, 1) := by decide +kernel
theorem dX6_become_1 : decode cX6_become 1 = .ok (.aload_n 1, 1) := by decide +kernel
theorem dX6_become_2 : decode cX6_become 2 = .ok (.getfield 7, 3) := by decide +kernel
theorem dX6_become_5 : decode cX6_become 5 = .ok (.putfield 7, 3) := by decide +kernel
theorem dX6_become_8 : decode cX6_become 8 = .ok (.aload_n 0, 1) := by decide +kernel
theorem dX6_become_9 : decode cX6_become 9 = .ok (.aload_n 1, 1) := by decide +kernel
theorem dX6_become_10 : decode cX6_become 10 = .ok (.getfield 13, 3) := by decide +kernel
theorem dX6_become_13 : decode cX6_become 13 = .ok (.putfield 13, 3) := by decide +kernel
theorem dX6_become_16 : decode cX6_become 16 = .ok (.aload_n 0, 1) := by decide +kernel
theorem dX6_become_17 : decode cX6_become 17 = .ok (.aload_n 1, 1) := by decide +kernel
theorem dX6_become_18 : decode cX6_become 18 = .ok (.getfield 16, 3) := by decide +kernel
theorem dX6_become_21 : decode cX6_become 21 = .ok (.putfield 16, 3) := by decide +kernel
theorem dX6_become_24 : decode cX6_become 24 = .ok (.return_, 1) := by decide +kernel
theorem dX7_init_0 : decode cX7_init 0 = .ok (.aload_n 0, 1) := by decide +kernel
theorem dX7_init_1 : decode cX7_init 1 = .ok (.invokespecial 3, 3) := by decide +kernel
theorem dX7_init_4 : decode cX7_init 4 = .ok (.aload_n 0, 1) := by decide +kernel
theorem dX7_init_5 : decode cX7_init 5 = .ok (.bipush 88, 2) := by decide +kernel
theorem dX7_init_7 : decode cX7_init 7 = .ok (.newarray .byte, 2) := by decide +kernel
theorem dX7_init_9 : decode cX7_init 9 = .ok (.putfield 11, 3) := by decide +kernel
theorem dX7_init_12 : decode cX7_init 12 = .ok (.return_, 1) := by decide +kernel
theorem dX8_init_0 : decode cX8_init 0 = .ok (.aload_n 0, 1) := by decide +kernel
theorem dX8_init_1 : decode cX8_init 1 = .ok (.invokespecial 3, 3) := by decide +kernel
theorem dX8_init_4 : decode cX8_init 4 = .ok (.aload_n 0, 1) := by decide +kernel
theorem dX8_init_5 : decode cX8_init 5 = .ok (.new 9, 3) := by decide +kernel
theorem dX8_init_8 : decode cX8_init 8 = .ok (.dup, 1) := by decide +kernel
theorem dX8_init_9 : decode cX8_init 9 = .ok (.invokespecial 11, 3) := by decide +kernel
theorem dX8_init_12 : decode cX8_init 12 = .ok (.putfield 12, 3) := by decide +kernel
theorem dX8_init_15 : decode cX8_init 15 = .ok (.aload_n 0, 1) := by decide +kernel
theorem dX8_init_16 : decode cX8_init 16 = .ok (.new 18, 3) := by decide +kernel
theorem dX8_init_19 : decode cX8_init 19 = .ok (.dup, 1) := by decide +kernel
theorem dX8_init_20 : decode cX8_init 20 = .ok (.invokespecial 20, 3) := by decide +kernel
theorem dX8_init_23 : decode cX8_init 23 = .ok (.putfield 21, 3) := by decide +kernel
theorem dX8_init_26 : decode cX8_init 26 = .ok (.aload_n 0, 1) := by decide +kernel
theorem dX8_init_27 : decode cX8_init 27 = .ok (.getstatic 25, 3) := by decide +kernel
theorem dX8_init_30 : decode cX8_init 30 = .ok (.putfield 31, 3) := by decide +kernel
theorem dX8_init_33 : decode cX8_init 33 = .ok (.aload_n 0, 1) := by decide +kernel
theorem dX8_init_34 : decode cX8_init 34 = .ok (.iconst 4, 1) := by decide +kernel
theorem dX8_init_35 : decode cX8_init 35 = .ok (.newarray .int, 2) := by decide +kernel
theorem dX8_init_37 : decode cX8_init 37 = .ok (.putfield 34, 3) := by decide +kernel
theorem dX8_init_40 : decode cX8_init 40 = .ok (.aload_n 0, 1) := by decide +kernel
theorem dX8_init_41 : decode cX8_init 41 = .ok (.iconst 2, 1) := by decide +kernel
theorem dX8_init_42 : decode cX8_init 42 = .ok (.newarray .int, 2) := by decide +kernel
theorem dX8_init_44 : decode cX8_init 44 = .ok (.putfield 38, 3) := by decide +kernel
theorem dX8_init_47 : decode cX8_init 47 = .ok (.aload_n 0, 1) := by decide +kernel
theorem dX8_init_48 : decode cX8_init 48 = .ok (.iconst 2, 1) := by decide +kernel
theorem dX8_init_49 : decode cX8_init 49 = .ok (.newarray .int, 2) := by decide +kernel
theorem dX8_init_51 : decode cX8_init 51 = .ok (.putfield 41, 3) := by decide +kernel
theorem dX8_init_54 : decode cX8_init 54 = .ok (.return_, 1) := by decide +kernel
theorem dX10_init_0 : decode cX10_init 0 = .ok (.aload_n 0, 1) := by decide +kernel
theorem dX10_init_1 : decode cX10_init 1 = .ok (.invokespecial 3, 3) := by decide +kernel
theorem dX10_init_4 : decode cX10_init 4 = .ok (.return_, 1) := by decide +kernel
theorem dX10_build_0 : decode cX10_build 0 = .ok (.aload_n 0, 1) := by decide +kernel
theorem dX10_build_1 : decode cX10_build 1 = .ok (.iload_n 1, 1) := by decide +kernel
theorem dX10_build_2 : decode cX10_build 2 = .ok (.putfield 9, 3) := by decide +kernel
theorem dX10_build_5 : decode cX10_build 5 = .ok (.aload_n 0, 1) := by decide +kernel
theorem dX10_build_6 : decode cX10_build 6 = .ok (.iconst 0, 1) := by decide +kernel
theorem dX10_build_7 : decode cX10_build 7 = .ok (.putfield 15, 3) := by decide +kernel
theorem dX10_build_10 : decode cX10_build 10 = .ok (.aload_n 0, 1) := by decide +kernel
theorem dX10_build_11 : decode cX10_build 11 = .ok (.iconst 1, 1) := by decide +kernel
theorem dX10_build_12 : decode cX10_build 12 = .ok (.putfield 18, 3) := by decide +kernel
theorem dX10_build_15 : decode cX10_build 15 = .ok (.aload_n 0, 1) := by decide +kernel
theorem dX10_build_16 : decode cX10_build 16 = .ok (.invokevirtual 22, 3) := by decide +kernel
theorem dX10_build_19 : decode cX10_build 19 = .ok (.return_, 1) := by decide +kernel
theorem dX10_become_0 : decode cX10_become 0 = .ok (.aload_n 0, 1) := by decide +kernel
theorem dX10_become_1 : decode cX10_become 1 = .ok (.aload_n 1, 1) := by decide +kernel
theorem dX10_become_2 : decode cX10_become 2 = .ok (.getfield 9, 3) := by decide +kernel
theorem dX10_become_5 : decode cX10_become 5 = .ok (.putfield 9, 3) := by decide +kernel
theorem dX10_become_8 : decode cX10_become 8 = .ok (.aload_n 0, 1) := by decide +kernel
theorem dX10_become_9 : decode cX10_become 9 = .ok (.aload_n 1, 1) := by decide +kernel
theorem dX10_become_10 : decode cX10_become 10 = .ok (.getfield 15, 3) := by decide +kernel
theorem dX10_become_13 : decode cX10_become 13 = .ok (.putfield 15, 3) := by decide +kernel
theorem dX10_become_16 : decode cX10_become 16 = .ok (.aload_n 0, 1) := by decide +kernel
theorem dX10_become_17 : decode cX10_become 17 = .ok (.aload_n 1, 1) := by decide +kernel
theorem dX10_become_18 : decode cX10_become 18 = .ok (.getfield 18, 3) := by decide +kernel
theorem dX10_become_21 : decode cX10_become 21 = .ok (.putfield 18, 3) := by decide +kernel
theorem dX10_become_24 : decode cX10_become 24 = .ok (.aload_n 0, 1) := by decide +kernel
theorem dX10_become_25 : decode cX10_become 25 = .ok (.aload_n 1, 1) := by decide +kernel
theorem dX10_become_26 : decode cX10_become 26 = .ok (.getfield 25, 3) := by decide +kernel
theorem dX10_become_29 : decode cX10_become 29 = .ok (.putfield 25, 3) := by decide +kernel
theorem dX10_become_32 : decode cX10_become 32 = .ok (.aload_n 0, 1) := by decide +kernel
theorem dX10_become_33 : decode cX10_become 33 = .ok (.aload_n 1, 1) := by decide +kernel
theorem dX10_become_34 : decode cX10_become 34 = .ok (.getfield 28, 3) := by decide +kernel
theorem dX10_become_37 : decode cX10_become 37 = .ok (.putfield 28, 3) := by decide +kernel
theorem dX10_become_40 : decode cX10_become 40 = .ok (.aload_n 0, 1) := by decide +kernel
theorem dX10_become_41 : decode cX10_become 41 = .ok (.aload_n 1, 1) := by decide +kernel
theorem dX10_become_42 : decode cX10_become 42 = .ok (.getfield 31, 3) := by decide +kernel
theorem dX10_become_45 : decode cX10_become 45 = .ok (.putfield 31, 3) := by decide +kernel
theorem dX10_become_48 : decode cX10_become 48 = .ok (.aload_n 0, 1) := by decide +kernel
theorem dX10_become_49 : decode cX10_become 49 = .ok (.aload_n 1, 1) := by decide +kernel
theorem dX10_become_50 : decode cX10_become 50 = .ok (.getfield 34, 3) := by decide +kernel
theorem dX10_become_53 : decode cX10_become 53 = .ok (.putfield 34, 3) := by decide +kernel
theorem dX10_become_56 : decode cX10_become 56 = .ok (.aload_n 0, 1) := by decide +kernel
theorem dX10_become_57 : decode cX10_become 57 = .ok (.aload_n 1, 1) := by decide +kernel
theorem dX10_become_58 : decode cX10_become 58 = .ok (.getfield 37, 3) := by decide +kernel
theorem dX10_become_61 : decode cX10_become 61 = .ok (.putfield 37, 3) := by decide +kernel
theorem dX10_become_64 : decode cX10_become 64 = .ok (.aload_n 0, 1) := by decide +kernel
theorem dX10_become_65 : decode cX10_become 65 = .ok (.aload_n 1, 1) := by decide +kernel
theorem dX10_become_66 : decode cX10_become 66 = .ok (.getfield 40, 3) := by decide +kernel
theorem dX10_become_69 : decode cX10_become 69 = .ok (.putfield 40, 3) := by decide +kernel
theorem dX10_become_72 : decode cX10_become 72 = .ok (.aload_n 0, 1) := by decide +kernel
theorem dX10_become_73 : decode cX10_become 73 = .ok (.aload_n 1, 1) := by decide +kernel
theorem dX10_become_74 : decode cX10_become 74 = .ok (.getfield 43, 3) := by decide +kernel
theorem dX10_become_77 : decode cX10_become 77 = .ok (.putfield 43, 3) := by decide +kernel
theorem dX10_become_80 : decode cX10_become 80 = .ok (.return_, 1) := by decide +kernel
theorem dX10_hasLeaf_0 : decode cX10_hasLeaf 0 = .ok (.aload_n 0, 1) := by decide +kernel
theorem dX10_hasLeaf_1 : decode cX10_hasLeaf 1 = .ok (.getfield 25, 3) := by decide +kernel
theorem dX10_hasLeaf_4 : decode cX10_hasLeaf 4 = .ok (.ifCond .le 7, 3) := by decide +kernel
theorem dX10_hasLeaf_7 : decode cX10_hasLeaf 7 = .ok (.iconst 1, 1) := by decide +kernel
theorem dX10_hasLeaf_8 : decode cX10_hasLeaf 8 = .ok (.goto 4, 3) := by decide +kernel
theorem dX10_hasLeaf_11 : decode cX10_hasLeaf 11 = .ok (.iconst 0, 1) := by decide +kernel
theorem dX10_hasLeaf_12 : decode cX10_hasLeaf 12 = .ok (.ireturn, 1) := by decide +kernel
theorem dX10_takeLeaf_0 : decode cX10_takeLeaf 0 = .ok (.aload_n 0, 1) := by decide +kernel
theorem dX10_takeLeaf_1 : decode cX10_takeLeaf 1 = .ok (.iload_n 1, 1) := by decide +kernel
theorem dX10_takeLeaf_2 : decode cX10_takeLeaf 2 = .ok (.putfield 25, 3) := by decide +kernel
theorem dX10_takeLeaf_5 : decode cX10_takeLeaf 5 = .ok (.aload_n 0, 1) := by decide +kernel
theorem dX10_takeLeaf_6 : decode cX10_takeLeaf 6 = .ok (.aload_n 0, 1) := by decide +kernel
theorem dX10_takeLeaf_7 : decode cX10_takeLeaf 7 = .ok (.getfield 9, 3) := by decide +kernel
theorem dX10_takeLeaf_10 : decode cX10_takeLeaf 10 = .ok (.ifCond .gt 7, 3) := by decide +kernel
theorem dX10_takeLeaf_13 : decode cX10_takeLeaf 13 = .ok (.iconst 0, 1) := by decide +kernel
theorem dX10_takeLeaf_14 : decode cX10_takeLeaf 14 = .ok (.goto 12, 3) := by decide +kernel
theorem dX10_takeLeaf_17 : decode cX10_takeLeaf 17 = .ok (.iload_n 1, 1) := by decide +kernel
theorem dX10_takeLeaf_18 : decode cX10_takeLeaf 18 = .ok (.bipush 100, 2) := by decide +kernel
theorem dX10_takeLeaf_20 : decode cX10_takeLeaf 20 = .ok (.imul, 1) := by decide +kernel
theorem dX10_takeLeaf_21 : decode cX10_takeLeaf 21 = .ok (.aload_n 0, 1) := by decide +kernel
theorem dX10_takeLeaf_22 : decode cX10_takeLeaf 22 = .ok (.getfield 9, 3) := by decide +kernel
theorem dX10_takeLeaf_25 : decode cX10_takeLeaf 25 = .ok (.idiv, 1) := by decide +kernel
theorem dX10_takeLeaf_26 : decode cX10_takeLeaf 26 = .ok (.putfield 28, 3) := by decide +kernel
theorem dX10_takeLeaf_29 : decode cX10_takeLeaf 29 = .ok (.aload_n 0, 1) := by decide +kernel
theorem dX10_takeLeaf_30 : decode cX10_takeLeaf 30 = .ok (.iload_n 1, 1) := by decide +kernel
theorem dX10_takeLeaf_31 : decode cX10_takeLeaf 31 = .ok (.sipush 2000, 3) := by decide +kernel
theorem dX10_takeLeaf_34 : decode cX10_takeLeaf 34 = .ok (.imul, 1) := by decide +kernel
theorem dX10_takeLeaf_35 : decode cX10_takeLeaf 35 = .ok (.putfield 31, 3) := by decide +kernel
theorem dX10_takeLeaf_38 : decode cX10_takeLeaf 38 = .ok (.aload_n 0, 1) := by decide +kernel
theorem dX10_takeLeaf_39 : decode cX10_takeLeaf 39 = .ok (.iload_n 2, 1) := by decide +kernel
theorem dX10_takeLeaf_40 : decode cX10_takeLeaf 40 = .ok (.putfield 34, 3) := by decide +kernel
theorem dX10_takeLeaf_43 : decode cX10_takeLeaf 43 = .ok (.aload_n 0, 1) := by decide +kernel
theorem dX10_takeLeaf_44 : decode cX10_takeLeaf 44 = .ok (.iload_n 2, 1) := by decide +kernel
theorem dX10_takeLeaf_45 : decode cX10_takeLeaf 45 = .ok (.putfield 37, 3) := by decide +kernel
theorem dX10_takeLeaf_48 : decode cX10_takeLeaf 48 = .ok (.aload_n 0, 1) := by decide +kernel
theorem dX10_takeLeaf_49 : decode cX10_takeLeaf 49 = .ok (.iconst 0, 1) := by decide +kernel
theorem dX10_takeLeaf_50 : decode cX10_takeLeaf 50 = .ok (.putfield 40, 3) := by decide +kernel
theorem dX10_takeLeaf_53 : decode cX10_takeLeaf 53 = .ok (.aload_n 0, 1) := by decide +kernel
theorem dX10_takeLeaf_54 : decode cX10_takeLeaf 54 = .ok (.iconst 0, 1) := by decide +kernel
theorem dX10_takeLeaf_55 : decode cX10_takeLeaf 55 = .ok (.putfield 43, 3) := by decide +kernel
theorem dX10_takeLeaf_58 : decode cX10_takeLeaf 58 = .ok (.return_, 1) := by decide +kernel
theorem dX10_removeLeaf_0 : decode cX10_removeLeaf 0 = .ok (.aload_n 0, 1) := by decide +kernel
theorem dX10_removeLeaf_1 : decode cX10_removeLeaf 1 = .ok (.iconst 0, 1) := by decide +kernel
theorem dX10_removeLeaf_2 : decode cX10_removeLeaf 2 = .ok (.putfield 25, 3) := by decide +kernel
theorem dX10_removeLeaf_5 : decode cX10_removeLeaf 5 = .ok (.aload_n 0, 1) := by decide +kernel
theorem dX10_removeLeaf_6 : decode cX10_removeLeaf 6 = .ok (.iconst 0, 1) := by decide +kernel
theorem dX10_removeLeaf_7 : decode cX10_removeLeaf 7 = .ok (.putfield 28, 3) := by decide +kernel
theorem dX10_removeLeaf_10 : decode cX10_removeLeaf 10 = .ok (.aload_n 0, 1) := by decide +kernel
theorem dX10_removeLeaf_11 : decode cX10_removeLeaf 11 = .ok (.iconst 0, 1) := by decide +kernel
theorem dX10_removeLeaf_12 : decode cX10_removeLeaf 12 = .ok (.putfield 31, 3) := by decide +kernel
theorem dX10_removeLeaf_15 : decode cX10_removeLeaf 15 = .ok (.aload_n 0, 1) := by decide +kernel
theorem dX10_removeLeaf_16 : decode cX10_removeLeaf 16 = .ok (.iconst 0, 1) := by decide +kernel
theorem dX10_removeLeaf_17 : decode cX10_removeLeaf 17 = .ok (.putfield 34, 3) := by decide +kernel
theorem dX10_removeLeaf_20 : decode cX10_removeLeaf 20 = .ok (.aload_n 0, 1) := by decide +kernel
theorem dX10_removeLeaf_21 : decode cX10_removeLeaf 21 = .ok (.iconst 0, 1) := by decide +kernel
theorem dX10_removeLeaf_22 : decode cX10_removeLeaf 22 = .ok (.putfield 37, 3) := by decide +kernel
theorem dX10_removeLeaf_25 : decode cX10_removeLeaf 25 = .ok (.aload_n 0, 1) := by decide +kernel
theorem dX10_removeLeaf_26 : decode cX10_removeLeaf 26 = .ok (.iconst 0, 1) := by decide +kernel
theorem dX10_removeLeaf_27 : decode cX10_removeLeaf 27 = .ok (.putfield 40, 3) := by decide +kernel
theorem dX10_removeLeaf_30 : decode cX10_removeLeaf 30 = .ok (.aload_n 0, 1) := by decide +kernel
theorem dX10_removeLeaf_31 : decode cX10_removeLeaf 31 = .ok (.iconst 0, 1) := by decide +kernel
theorem dX10_removeLeaf_32 : decode cX10_removeLeaf 32 = .ok (.putfield 43, 3) := by decide +kernel
theorem dX10_removeLeaf_35 : decode cX10_removeLeaf 35 = .ok (.return_, 1) := by decide +kernel
theorem dX10_mixLayers_0 : decode cX10_mixLayers 0 = .ok (.aload_n 0, 1) := by decide +kernel
theorem dX10_mixLayers_1 : decode cX10_mixLayers 1 = .ok (.getfield 34, 3) := by decide +kernel
theorem dX10_mixLayers_4 : decode cX10_mixLayers 4 = .ok (.aload_n 0, 1) := by decide +kernel
theorem dX10_mixLayers_5 : decode cX10_mixLayers 5 = .ok (.getfield 37, 3) := by decide +kernel
theorem dX10_mixLayers_8 : decode cX10_mixLayers 8 = .ok (.iadd, 1) := by decide +kernel
theorem dX10_mixLayers_9 : decode cX10_mixLayers 9 = .ok (.istore_n 1, 1) := by decide +kernel
theorem dX10_mixLayers_10 : decode cX10_mixLayers 10 = .ok (.aload_n 0, 1) := by decide +kernel
theorem dX10_mixLayers_11 : decode cX10_mixLayers 11 = .ok (.iload_n 1, 1) := by decide +kernel
theorem dX10_mixLayers_12 : decode cX10_mixLayers 12 = .ok (.iconst 2, 1) := by decide +kernel
theorem dX10_mixLayers_13 : decode cX10_mixLayers 13 = .ok (.idiv, 1) := by decide +kernel
theorem dX10_mixLayers_14 : decode cX10_mixLayers 14 = .ok (.putfield 34, 3) := by decide +kernel
theorem dX10_mixLayers_17 : decode cX10_mixLayers 17 = .ok (.aload_n 0, 1) := by decide +kernel
theorem dX10_mixLayers_18 : decode cX10_mixLayers 18 = .ok (.iload_n 1, 1) := by decide +kernel
theorem dX10_mixLayers_19 : decode cX10_mixLayers 19 = .ok (.aload_n 0, 1) := by decide +kernel
theorem dX10_mixLayers_20 : decode cX10_mixLayers 20 = .ok (.getfield 34, 3) := by decide +kernel
theorem dX10_mixLayers_23 : decode cX10_mixLayers 23 = .ok (.isub, 1) := by decide +kernel
theorem dX10_mixLayers_24 : decode cX10_mixLayers 24 = .ok (.putfield 37, 3) := by decide +kernel
theorem dX10_mixLayers_27 : decode cX10_mixLayers 27 = .ok (.aload_n 0, 1) := by decide +kernel
theorem dX10_mixLayers_28 : decode cX10_mixLayers 28 = .ok (.dup, 1) := by decide +kernel
theorem dX10_mixLayers_29 : decode cX10_mixLayers 29 = .ok (.getfield 43, 3) := by decide +kernel
theorem dX10_mixLayers_32 : decode cX10_mixLayers 32 = .ok (.iconst 2, 1) := by decide +kernel
theorem dX10_mixLayers_33 : decode cX10_mixLayers 33 = .ok (.iadd, 1) := by decide +kernel
theorem dX10_mixLayers_34 : decode cX10_mixLayers 34 = .ok (.putfield 43, 3) := by decide +kernel
theorem dX10_mixLayers_37 : decode cX10_mixLayers 37 = .ok (.return_, 1) := by decide +kernel
theorem dX10_moistureOf_0 : decode cX10_moistureOf 0 = .ok (.iload_n 1, 1) := by decide +kernel
theorem dX10_moistureOf_1 : decode cX10_moistureOf 1 = .ok (.ifCond .ne 10, 3) := by decide +kernel
theorem dX10_moistureOf_4 : decode cX10_moistureOf 4 = .ok (.aload_n 0, 1) := by decide +kernel
theorem dX10_moistureOf_5 : decode cX10_moistureOf 5 = .ok (.getfield 34, 3) := by decide +kernel
theorem dX10_moistureOf_8 : decode cX10_moistureOf 8 = .ok (.goto 7, 3) := by decide +kernel
theorem dX10_moistureOf_11 : decode cX10_moistureOf 11 = .ok (.aload_n 0, 1) := by decide +kernel
theorem dX10_moistureOf_12 : decode cX10_moistureOf 12 = .ok (.getfield 37, 3) := by decide +kernel
theorem dX10_moistureOf_15 : decode cX10_moistureOf 15 = .ok (.ireturn, 1) := by decide +kernel
theorem dX10_gap_0 : decode cX10_gap 0 = .ok (.aload_n 0, 1) := by decide +kernel
theorem dX10_gap_1 : decode cX10_gap 1 = .ok (.getfield 34, 3) := by decide +kernel
theorem dX10_gap_4 : decode cX10_gap 4 = .ok (.aload_n 0, 1) := by decide +kernel
theorem dX10_gap_5 : decode cX10_gap 5 = .ok (.getfield 37, 3) := by decide +kernel
theorem dX10_gap_8 : decode cX10_gap 8 = .ok (.isub, 1) := by decide +kernel
theorem dX10_gap_9 : decode cX10_gap 9 = .ok (.invokestatic 46, 3) := by decide +kernel
theorem dX10_gap_12 : decode cX10_gap 12 = .ok (.ireturn, 1) := by decide +kernel
theorem dX10_quality_0 : decode cX10_quality 0 = .ok (.bipush 100, 2) := by decide +kernel
theorem dX10_quality_2 : decode cX10_quality 2 = .ok (.aload_n 0, 1) := by decide +kernel
theorem dX10_quality_3 : decode cX10_quality 3 = .ok (.invokevirtual 52, 3) := by decide +kernel
theorem dX10_quality_6 : decode cX10_quality 6 = .ok (.isub, 1) := by decide +kernel
theorem dX10_quality_7 : decode cX10_quality 7 = .ok (.iconst 2, 1) := by decide +kernel
theorem dX10_quality_8 : decode cX10_quality 8 = .ok (.aload_n 0, 1) := by decide +kernel
theorem dX10_quality_9 : decode cX10_quality 9 = .ok (.getfield 43, 3) := by decide +kernel
theorem dX10_quality_12 : decode cX10_quality 12 = .ok (.imul, 1) := by decide +kernel
theorem dX10_quality_13 : decode cX10_quality 13 = .ok (.isub, 1) := by decide +kernel
theorem dX10_quality_14 : decode cX10_quality 14 = .ok (.istore_n 1, 1) := by decide +kernel
theorem dX10_quality_15 : decode cX10_quality 15 = .ok (.iload_n 1, 1) := by decide +kernel
theorem dX10_quality_16 : decode cX10_quality 16 = .ok (.ifCond .ge 7, 3) := by decide +kernel
theorem dX10_quality_19 : decode cX10_quality 19 = .ok (.iconst 0, 1) := by decide +kernel
theorem dX10_quality_20 : decode cX10_quality 20 = .ok (.goto 4, 3) := by decide +kernel
theorem dX10_quality_23 : decode cX10_quality 23 = .ok (.iload_n 1, 1) := by decide +kernel
theorem dX10_quality_24 : decode cX10_quality 24 = .ok (.ireturn, 1) := by decide +kernel
theorem dX10_lossAt_0 : decode cX10_lossAt 0 = .ok (.bipush 100, 2) := by decide +kernel
theorem dX10_lossAt_2 : decode cX10_lossAt 2 = .ok (.aload_n 0, 1) := by decide +kernel
theorem dX10_lossAt_3 : decode cX10_lossAt 3 = .ok (.getfield 28, 3) := by decide +kernel
theorem dX10_lossAt_6 : decode cX10_lossAt 6 = .ok (.iadd, 1) := by decide +kernel
theorem dX10_lossAt_7 : decode cX10_lossAt 7 = .ok (.istore_n 2, 1) := by decide +kernel
theorem dX10_lossAt_8 : decode cX10_lossAt 8 = .ok (.aload_n 0, 1) := by decide +kernel
theorem dX10_lossAt_9 : decode cX10_lossAt 9 = .ok (.invokevirtual 56, 3) := by decide +kernel
theorem dX10_lossAt_12 : decode cX10_lossAt 12 = .ok (.ifCond .eq 7, 3) := by decide +kernel
theorem dX10_lossAt_15 : decode cX10_lossAt 15 = .ok (.iload_n 2, 1) := by decide +kernel
theorem dX10_lossAt_16 : decode cX10_lossAt 16 = .ok (.ifCond .gt 7, 3) := by decide +kernel
theorem dX10_lossAt_19 : decode cX10_lossAt 19 = .ok (.iconst 0, 1) := by decide +kernel
theorem dX10_lossAt_20 : decode cX10_lossAt 20 = .ok (.goto 14, 3) := by decide +kernel
theorem dX10_lossAt_23 : decode cX10_lossAt 23 = .ok (.aload_n 0, 1) := by decide +kernel
theorem dX10_lossAt_24 : decode cX10_lossAt 24 = .ok (.getfield 15, 3) := by decide +kernel
theorem dX10_lossAt_27 : decode cX10_lossAt 27 = .ok (.iload_n 1, 1) := by decide +kernel
theorem dX10_lossAt_28 : decode cX10_lossAt 28 = .ok (.imul, 1) := by decide +kernel
theorem dX10_lossAt_29 : decode cX10_lossAt 29 = .ok (.bipush 60, 2) := by decide +kernel
theorem dX10_lossAt_31 : decode cX10_lossAt 31 = .ok (.imul, 1) := by decide +kernel
theorem dX10_lossAt_32 : decode cX10_lossAt 32 = .ok (.iload_n 2, 1) := by decide +kernel
theorem dX10_lossAt_33 : decode cX10_lossAt 33 = .ok (.idiv, 1) := by decide +kernel
theorem dX10_lossAt_34 : decode cX10_lossAt 34 = .ok (.ireturn, 1) := by decide +kernel
theorem dX10_passHour_0 : decode cX10_passHour 0 = .ok (.aload_n 0, 1) := by decide +kernel
theorem dX10_passHour_1 : decode cX10_passHour 1 = .ok (.invokevirtual 56, 3) := by decide +kernel
theorem dX10_passHour_4 : decode cX10_passHour 4 = .ok (.ifCond .ne 5, 3) := by decide +kernel
theorem dX10_passHour_7 : decode cX10_passHour 7 = .ok (.iconst 0, 1) := by decide +kernel
theorem dX10_passHour_8 : decode cX10_passHour 8 = .ok (.ireturn, 1) := by decide +kernel
theorem dX10_passHour_9 : decode cX10_passHour 9 = .ok (.aload_n 0, 1) := by decide +kernel
theorem dX10_passHour_10 : decode cX10_passHour 10 = .ok (.aload_n 0, 1) := by decide +kernel
theorem dX10_passHour_11 : decode cX10_passHour 11 = .ok (.iload_n 1, 1) := by decide +kernel
theorem dX10_passHour_12 : decode cX10_passHour 12 = .ok (.invokevirtual 60, 3) := by decide +kernel
theorem dX10_passHour_15 : decode cX10_passHour 15 = .ok (.invokevirtual 63, 3) := by decide +kernel
theorem dX10_passHour_18 : decode cX10_passHour 18 = .ok (.istore_n 2, 1) := by decide +kernel
theorem dX10_passHour_19 : decode cX10_passHour 19 = .ok (.aload_n 0, 1) := by decide +kernel
theorem dX10_passHour_20 : decode cX10_passHour 20 = .ok (.getfield 15, 3) := by decide +kernel
theorem dX10_passHour_23 : decode cX10_passHour 23 = .ok (.ifCond .le 34, 3) := by decide +kernel
theorem dX10_passHour_26 : decode cX10_passHour 26 = .ok (.aload_n 0, 1) := by decide +kernel
theorem dX10_passHour_27 : decode cX10_passHour 27 = .ok (.aload_n 0, 1) := by decide +kernel
theorem dX10_passHour_28 : decode cX10_passHour 28 = .ok (.getfield 40, 3) := by decide +kernel
theorem dX10_passHour_31 : decode cX10_passHour 31 = .ok (.aload_n 0, 1) := by decide +kernel
theorem dX10_passHour_32 : decode cX10_passHour 32 = .ok (.getfield 15, 3) := by decide +kernel
theorem dX10_passHour_35 : decode cX10_passHour 35 = .ok (.if_icmp .ge 7, 3) := by decide +kernel
theorem dX10_passHour_38 : decode cX10_passHour 38 = .ok (.iconst 0, 1) := by decide +kernel
theorem dX10_passHour_39 : decode cX10_passHour 39 = .ok (.goto 12, 3) := by decide +kernel
theorem dX10_passHour_42 : decode cX10_passHour 42 = .ok (.aload_n 0, 1) := by decide +kernel
theorem dX10_passHour_43 : decode cX10_passHour 43 = .ok (.getfield 40, 3) := by decide +kernel
theorem dX10_passHour_46 : decode cX10_passHour 46 = .ok (.aload_n 0, 1) := by decide +kernel
theorem dX10_passHour_47 : decode cX10_passHour 47 = .ok (.getfield 15, 3) := by decide +kernel
theorem dX10_passHour_50 : decode cX10_passHour 50 = .ok (.isub, 1) := by decide +kernel
theorem dX10_passHour_51 : decode cX10_passHour 51 = .ok (.putfield 40, 3) := by decide +kernel
theorem dX10_passHour_54 : decode cX10_passHour 54 = .ok (.goto 22, 3) := by decide +kernel
theorem dX10_passHour_57 : decode cX10_passHour 57 = .ok (.aload_n 0, 1) := by decide +kernel
theorem dX10_passHour_58 : decode cX10_passHour 58 = .ok (.getfield 40, 3) := by decide +kernel
theorem dX10_passHour_61 : decode cX10_passHour 61 = .ok (.bipush 20, 2) := by decide +kernel
theorem dX10_passHour_63 : decode cX10_passHour 63 = .ok (.if_icmp .ge 13, 3) := by decide +kernel
theorem dX10_passHour_66 : decode cX10_passHour 66 = .ok (.aload_n 0, 1) := by decide +kernel
theorem dX10_passHour_67 : decode cX10_passHour 67 = .ok (.dup, 1) := by decide +kernel
theorem dX10_passHour_68 : decode cX10_passHour 68 = .ok (.getfield 40, 3) := by decide +kernel
theorem dX10_passHour_71 : decode cX10_passHour 71 = .ok (.iconst 1, 1) := by decide +kernel
theorem dX10_passHour_72 : decode cX10_passHour 72 = .ok (.iadd, 1) := by decide +kernel
theorem dX10_passHour_73 : decode cX10_passHour 73 = .ok (.putfield 40, 3) := by decide +kernel
theorem dX10_passHour_76 : decode cX10_passHour 76 = .ok (.aload_n 0, 1) := by decide +kernel
theorem dX10_passHour_77 : decode cX10_passHour 77 = .ok (.getfield 40, 3) := by decide +kernel
theorem dX10_passHour_80 : decode cX10_passHour 80 = .ok (.bipush 10, 2) := by decide +kernel
theorem dX10_passHour_82 : decode cX10_passHour 82 = .ok (.if_icmp .lt 13, 3) := by decide +kernel
theorem dX10_passHour_85 : decode cX10_passHour 85 = .ok (.aload_n 0, 1) := by decide +kernel
theorem dX10_passHour_86 : decode cX10_passHour 86 = .ok (.dup, 1) := by decide +kernel
theorem dX10_passHour_87 : decode cX10_passHour 87 = .ok (.getfield 43, 3) := by decide +kernel
theorem dX10_passHour_90 : decode cX10_passHour 90 = .ok (.iconst 1, 1) := by decide +kernel
theorem dX10_passHour_91 : decode cX10_passHour 91 = .ok (.iadd, 1) := by decide +kernel
theorem dX10_passHour_92 : decode cX10_passHour 92 = .ok (.putfield 43, 3) := by decide +kernel
theorem dX10_passHour_95 : decode cX10_passHour 95 = .ok (.iload_n 2, 1) := by decide +kernel
theorem dX10_passHour_96 : decode cX10_passHour 96 = .ok (.ireturn, 1) := by decide +kernel
theorem dX10_loseMoisture_0 : decode cX10_loseMoisture 0 = .ok (.aload_n 0, 1) := by decide +kernel
theorem dX10_loseMoisture_1 : decode cX10_loseMoisture 1 = .ok (.getfield 34, 3) := by decide +kernel
theorem dX10_loseMoisture_4 : decode cX10_loseMoisture 4 = .ok (.aload_n 0, 1) := by decide +kernel
theorem dX10_loseMoisture_5 : decode cX10_loseMoisture 5 = .ok (.getfield 37, 3) := by decide +kernel
theorem dX10_loseMoisture_8 : decode cX10_loseMoisture 8 = .ok (.iadd, 1) := by decide +kernel
theorem dX10_loseMoisture_9 : decode cX10_loseMoisture 9 = .ok (.istore_n 2, 1) := by decide +kernel
theorem dX10_loseMoisture_10 : decode cX10_loseMoisture 10 = .ok (.aload_n 0, 1) := by decide +kernel
theorem dX10_loseMoisture_11 : decode cX10_loseMoisture 11 = .ok (.aload_n 0, 1) := by decide +kernel
theorem dX10_loseMoisture_12 : decode cX10_loseMoisture 12 = .ok (.getfield 34, 3) := by decide +kernel
theorem dX10_loseMoisture_15 : decode cX10_loseMoisture 15 = .ok (.aload_n 0, 1) := by decide +kernel
theorem dX10_loseMoisture_16 : decode cX10_loseMoisture 16 = .ok (.getfield 18, 3) := by decide +kernel
theorem dX10_loseMoisture_19 : decode cX10_loseMoisture 19 = .ok (.ifCond .eq 7, 3) := by decide +kernel
theorem dX10_loseMoisture_22 : decode cX10_loseMoisture 22 = .ok (.iload_n 1, 1) := by decide +kernel
theorem dX10_loseMoisture_23 : decode cX10_loseMoisture 23 = .ok (.goto 6, 3) := by decide +kernel
theorem dX10_loseMoisture_26 : decode cX10_loseMoisture 26 = .ok (.iload_n 1, 1) := by decide +kernel
theorem dX10_loseMoisture_27 : decode cX10_loseMoisture 27 = .ok (.iconst 2, 1) := by decide +kernel
theorem dX10_loseMoisture_28 : decode cX10_loseMoisture 28 = .ok (.idiv, 1) := by decide +kernel
theorem dX10_loseMoisture_29 : decode cX10_loseMoisture 29 = .ok (.isub, 1) := by decide +kernel
theorem dX10_loseMoisture_30 : decode cX10_loseMoisture 30 = .ok (.invokestatic 66, 3) := by decide +kernel
theorem dX10_loseMoisture_33 : decode cX10_loseMoisture 33 = .ok (.putfield 34, 3) := by decide +kernel
theorem dX10_loseMoisture_36 : decode cX10_loseMoisture 36 = .ok (.aload_n 0, 1) := by decide +kernel
theorem dX10_loseMoisture_37 : decode cX10_loseMoisture 37 = .ok (.aload_n 0, 1) := by decide +kernel
theorem dX10_loseMoisture_38 : decode cX10_loseMoisture 38 = .ok (.getfield 37, 3) := by decide +kernel
theorem dX10_loseMoisture_41 : decode cX10_loseMoisture 41 = .ok (.aload_n 0, 1) := by decide +kernel
theorem dX10_loseMoisture_42 : decode cX10_loseMoisture 42 = .ok (.getfield 18, 3) := by decide +kernel
theorem dX10_loseMoisture_45 : decode cX10_loseMoisture 45 = .ok (.ifCond .eq 9, 3) := by decide +kernel
theorem dX10_loseMoisture_48 : decode cX10_loseMoisture 48 = .ok (.iload_n 1, 1) := by decide +kernel
theorem dX10_loseMoisture_49 : decode cX10_loseMoisture 49 = .ok (.iconst 2, 1) := by decide +kernel
theorem dX10_loseMoisture_50 : decode cX10_loseMoisture 50 = .ok (.idiv, 1) := by decide +kernel
theorem dX10_loseMoisture_51 : decode cX10_loseMoisture 51 = .ok (.goto 4, 3) := by decide +kernel
theorem dX10_loseMoisture_54 : decode cX10_loseMoisture 54 = .ok (.iload_n 1, 1) := by decide +kernel
theorem dX10_loseMoisture_55 : decode cX10_loseMoisture 55 = .ok (.isub, 1) := by decide +kernel
theorem dX10_loseMoisture_56 : decode cX10_loseMoisture 56 = .ok (.invokestatic 66, 3) := by decide +kernel
theorem dX10_loseMoisture_59 : decode cX10_loseMoisture 59 = .ok (.putfield 37, 3) := by decide +kernel
theorem dX10_loseMoisture_62 : decode cX10_loseMoisture 62 = .ok (.iload_n 2, 1) := by decide +kernel
theorem dX10_loseMoisture_63 : decode cX10_loseMoisture 63 = .ok (.aload_n 0, 1) := by decide +kernel
theorem dX10_loseMoisture_64 : decode cX10_loseMoisture 64 = .ok (.getfield 34, 3) := by decide +kernel
theorem dX10_loseMoisture_67 : decode cX10_loseMoisture 67 = .ok (.isub, 1) := by decide +kernel
theorem dX10_loseMoisture_68 : decode cX10_loseMoisture 68 = .ok (.aload_n 0, 1) := by decide +kernel
theorem dX10_loseMoisture_69 : decode cX10_loseMoisture 69 = .ok (.getfield 37, 3) := by decide +kernel
theorem dX10_loseMoisture_72 : decode cX10_loseMoisture 72 = .ok (.isub, 1) := by decide +kernel
theorem dX10_loseMoisture_73 : decode cX10_loseMoisture 73 = .ok (.aload_n 0, 1) := by decide +kernel
theorem dX10_loseMoisture_74 : decode cX10_loseMoisture 74 = .ok (.getfield 25, 3) := by decide +kernel
theorem dX10_loseMoisture_77 : decode cX10_loseMoisture 77 = .ok (.imul, 1) := by decide +kernel
theorem dX10_loseMoisture_78 : decode cX10_loseMoisture 78 = .ok (.istore_n 3, 1) := by decide +kernel
theorem dX10_loseMoisture_79 : decode cX10_loseMoisture 79 = .ok (.aload_n 0, 1) := by decide +kernel
theorem dX10_loseMoisture_80 : decode cX10_loseMoisture 80 = .ok (.dup, 1) := by decide +kernel
theorem dX10_loseMoisture_81 : decode cX10_loseMoisture 81 = .ok (.getfield 31, 3) := by decide +kernel
theorem dX10_loseMoisture_84 : decode cX10_loseMoisture 84 = .ok (.iload_n 3, 1) := by decide +kernel
theorem dX10_loseMoisture_85 : decode cX10_loseMoisture 85 = .ok (.isub, 1) := by decide +kernel
theorem dX10_loseMoisture_86 : decode cX10_loseMoisture 86 = .ok (.putfield 31, 3) := by decide +kernel
theorem dX10_loseMoisture_89 : decode cX10_loseMoisture 89 = .ok (.iload_n 3, 1) := by decide +kernel
theorem dX10_loseMoisture_90 : decode cX10_loseMoisture 90 = .ok (.ireturn, 1) := by decide +kernel
theorem dX10_countViolations_0 : decode cX10_countViolations 0 = .ok (.aload_n 0, 1) := by decide +kernel
theorem dX10_countViolations_1 : decode cX10_countViolations 1 = .ok (.invokevirtual 56, 3) := by decide +kernel
theorem dX10_countViolations_4 : decode cX10_countViolations 4 = .ok (.ifCond .ne 5, 3) := by decide +kernel
theorem dX10_countViolations_7 : decode cX10_countViolations 7 = .ok (.iconst 0, 1) := by decide +kernel
theorem dX10_countViolations_8 : decode cX10_countViolations 8 = .ok (.ireturn, 1) := by decide +kernel
theorem dX10_countViolations_9 : decode cX10_countViolations 9 = .ok (.aload_n 0, 1) := by decide +kernel
theorem dX10_countViolations_10 : decode cX10_countViolations 10 = .ok (.getfield 25, 3) := by decide +kernel
theorem dX10_countViolations_13 : decode cX10_countViolations 13 = .ok (.aload_n 0, 1) := by decide +kernel
theorem dX10_countViolations_14 : decode cX10_countViolations 14 = .ok (.getfield 9, 3) := by decide +kernel
theorem dX10_countViolations_17 : decode cX10_countViolations 17 = .ok (.if_icmp .le 7, 3) := by decide +kernel
theorem dX10_countViolations_20 : decode cX10_countViolations 20 = .ok (.iconst 1, 1) := by decide +kernel
theorem dX10_countViolations_21 : decode cX10_countViolations 21 = .ok (.goto 4, 3) := by decide +kernel
theorem dX10_countViolations_24 : decode cX10_countViolations 24 = .ok (.iconst 0, 1) := by decide +kernel
theorem dX10_countViolations_25 : decode cX10_countViolations 25 = .ok (.istore_n 1, 1) := by decide +kernel
theorem dX10_countViolations_26 : decode cX10_countViolations 26 = .ok (.iload_n 1, 1) := by decide +kernel
theorem dX10_countViolations_27 : decode cX10_countViolations 27 = .ok (.aload_n 0, 1) := by decide +kernel
theorem dX10_countViolations_28 : decode cX10_countViolations 28 = .ok (.getfield 34, 3) := by decide +kernel
theorem dX10_countViolations_31 : decode cX10_countViolations 31 = .ok (.sipush 300, 3) := by decide +kernel
theorem dX10_countViolations_34 : decode cX10_countViolations 34 = .ok (.if_icmp .lt 13, 3) := by decide +kernel
theorem dX10_countViolations_37 : decode cX10_countViolations 37 = .ok (.aload_n 0, 1) := by decide +kernel
theorem dX10_countViolations_38 : decode cX10_countViolations 38 = .ok (.getfield 34, 3) := by decide +kernel
theorem dX10_countViolations_41 : decode cX10_countViolations 41 = .ok (.sipush 900, 3) := by decide +kernel
theorem dX10_countViolations_44 : decode cX10_countViolations 44 = .ok (.if_icmp .le 7, 3) := by decide +kernel
theorem dX10_countViolations_47 : decode cX10_countViolations 47 = .ok (.iconst 1, 1) := by decide +kernel
theorem dX10_countViolations_48 : decode cX10_countViolations 48 = .ok (.goto 4, 3) := by decide +kernel
theorem dX10_countViolations_51 : decode cX10_countViolations 51 = .ok (.iconst 0, 1) := by decide +kernel
theorem dX10_countViolations_52 : decode cX10_countViolations 52 = .ok (.iadd, 1) := by decide +kernel
theorem dX10_countViolations_53 : decode cX10_countViolations 53 = .ok (.istore_n 1, 1) := by decide +kernel
theorem dX10_countViolations_54 : decode cX10_countViolations 54 = .ok (.iload_n 1, 1) := by decide +kernel
theorem dX10_countViolations_55 : decode cX10_countViolations 55 = .ok (.aload_n 0, 1) := by decide +kernel
theorem dX10_countViolations_56 : decode cX10_countViolations 56 = .ok (.getfield 37, 3) := by decide +kernel
theorem dX10_countViolations_59 : decode cX10_countViolations 59 = .ok (.sipush 300, 3) := by decide +kernel
theorem dX10_countViolations_62 : decode cX10_countViolations 62 = .ok (.if_icmp .lt 13, 3) := by decide +kernel
theorem dX10_countViolations_65 : decode cX10_countViolations 65 = .ok (.aload_n 0, 1) := by decide +kernel
theorem dX10_countViolations_66 : decode cX10_countViolations 66 = .ok (.getfield 37, 3) := by decide +kernel
theorem dX10_countViolations_69 : decode cX10_countViolations 69 = .ok (.sipush 900, 3) := by decide +kernel
theorem dX10_countViolations_72 : decode cX10_countViolations 72 = .ok (.if_icmp .le 7, 3) := by decide +kernel
theorem dX10_countViolations_75 : decode cX10_countViolations 75 = .ok (.iconst 1, 1) := by decide +kernel
theorem dX10_countViolations_76 : decode cX10_countViolations 76 = .ok (.goto 4, 3) := by decide +kernel
theorem dX10_countViolations_79 : decode cX10_countViolations 79 = .ok (.iconst 0, 1) := by decide +kernel
theorem dX10_countViolations_80 : decode cX10_countViolations 80 = .ok (.iadd, 1) := by decide +kernel
theorem dX10_countViolations_81 : decode cX10_countViolations 81 = .ok (.istore_n 1, 1) := by decide +kernel
theorem dX10_countViolations_82 : decode cX10_countViolations 82 = .ok (.iload_n 1, 1) := by decide +kernel
theorem dX10_countViolations_83 : decode cX10_countViolations 83 = .ok (.aload_n 0, 1) := by decide +kernel
theorem dX10_countViolations_84 : decode cX10_countViolations 84 = .ok (.getfield 40, 3) := by decide +kernel
theorem dX10_countViolations_87 : decode cX10_countViolations 87 = .ok (.ifCond .lt 12, 3) := by decide +kernel
theorem dX10_countViolations_90 : decode cX10_countViolations 90 = .ok (.aload_n 0, 1) := by decide +kernel
theorem dX10_countViolations_91 : decode cX10_countViolations 91 = .ok (.getfield 40, 3) := by decide +kernel
theorem dX10_countViolations_94 : decode cX10_countViolations 94 = .ok (.bipush 20, 2) := by decide +kernel
theorem dX10_countViolations_96 : decode cX10_countViolations 96 = .ok (.if_icmp .le 7, 3) := by decide +kernel
theorem dX10_countViolations_99 : decode cX10_countViolations 99 = .ok (.iconst 1, 1) := by decide +kernel
theorem dX10_countViolations_100 : decode cX10_countViolations 100 = .ok (.goto 4, 3) := by decide +kernel
theorem dX10_countViolations_103 : decode cX10_countViolations 103 = .ok (.iconst 0, 1) := by decide +kernel
theorem dX10_countViolations_104 : decode cX10_countViolations 104 = .ok (.iadd, 1) := by decide +kernel
theorem dX10_countViolations_105 : decode cX10_countViolations 105 = .ok (.istore_n 1, 1) := by decide +kernel
theorem dX10_countViolations_106 : decode cX10_countViolations 106 = .ok (.iload_n 1, 1) := by decide +kernel
theorem dX10_countViolations_107 : decode cX10_countViolations 107 = .ok (.ireturn, 1) := by decide +kernel
theorem dX11_init_0 : decode cX11_init 0 = .ok (.aload_n 0, 1) := by decide +kernel
theorem dX11_init_1 : decode cX11_init 1 = .ok (.invokespecial 3, 3) := by decide +kernel
theorem dX11_init_4 : decode cX11_init 4 = .ok (.aload_n 0, 1) := by decide +kernel
theorem dX11_init_5 : decode cX11_init 5 = .ok (.new 9, 3) := by decide +kernel
theorem dX11_init_8 : decode cX11_init 8 = .ok (.dup, 1) := by decide +kernel
theorem dX11_init_9 : decode cX11_init 9 = .ok (.invokespecial 11, 3) := by decide +kernel
theorem dX11_init_12 : decode cX11_init 12 = .ok (.putfield 12, 3) := by decide +kernel
theorem dX11_init_15 : decode cX11_init 15 = .ok (.aload_n 0, 1) := by decide +kernel
theorem dX11_init_16 : decode cX11_init 16 = .ok (.new 9, 3) := by decide +kernel
theorem dX11_init_19 : decode cX11_init 19 = .ok (.dup, 1) := by decide +kernel
theorem dX11_init_20 : decode cX11_init 20 = .ok (.invokespecial 11, 3) := by decide +kernel
theorem dX11_init_23 : decode cX11_init 23 = .ok (.putfield 16, 3) := by decide +kernel
theorem dX11_init_26 : decode cX11_init 26 = .ok (.aload_n 0, 1) := by decide +kernel
theorem dX11_init_27 : decode cX11_init 27 = .ok (.new 19, 3) := by decide +kernel
theorem dX11_init_30 : decode cX11_init 30 = .ok (.dup, 1) := by decide +kernel
theorem dX11_init_31 : decode cX11_init 31 = .ok (.invokespecial 21, 3) := by decide +kernel
theorem dX11_init_34 : decode cX11_init 34 = .ok (.putfield 22, 3) := by decide +kernel
theorem dX11_init_37 : decode cX11_init 37 = .ok (.aload_n 0, 1) := by decide +kernel
theorem dX11_init_38 : decode cX11_init 38 = .ok (.new 26, 3) := by decide +kernel
theorem dX11_init_41 : decode cX11_init 41 = .ok (.dup, 1) := by decide +kernel
theorem dX11_init_42 : decode cX11_init 42 = .ok (.invokespecial 28, 3) := by decide +kernel
theorem dX11_init_45 : decode cX11_init 45 = .ok (.putfield 29, 3) := by decide +kernel
theorem dX11_init_48 : decode cX11_init 48 = .ok (.aload_n 0, 1) := by decide +kernel
theorem dX11_init_49 : decode cX11_init 49 = .ok (.new 33, 3) := by decide +kernel
theorem dX11_init_52 : decode cX11_init 52 = .ok (.dup, 1) := by decide +kernel
theorem dX11_init_53 : decode cX11_init 53 = .ok (.invokespecial 35, 3) := by decide +kernel
theorem dX11_init_56 : decode cX11_init 56 = .ok (.putfield 36, 3) := by decide +kernel
theorem dX11_init_59 : decode cX11_init 59 = .ok (.aload_n 0, 1) := by decide +kernel
theorem dX11_init_60 : decode cX11_init 60 = .ok (.new 40, 3) := by decide +kernel
theorem dX11_init_63 : decode cX11_init 63 = .ok (.dup, 1) := by decide +kernel
theorem dX11_init_64 : decode cX11_init 64 = .ok (.invokespecial 42, 3) := by decide +kernel
theorem dX11_init_67 : decode cX11_init 67 = .ok (.putfield 43, 3) := by decide +kernel
theorem dX11_init_70 : decode cX11_init 70 = .ok (.aload_n 0, 1) := by decide +kernel
theorem dX11_init_71 : decode cX11_init 71 = .ok (.getfield 12, 3) := by decide +kernel
theorem dX11_init_74 : decode cX11_init 74 = .ok (.bipush 100, 2) := by decide +kernel
theorem dX11_init_76 : decode cX11_init 76 = .ok (.invokevirtual 47, 3) := by decide +kernel
theorem dX11_init_79 : decode cX11_init 79 = .ok (.pop, 1) := by decide +kernel
theorem dX11_init_80 : decode cX11_init 80 = .ok (.aload_n 0, 1) := by decide +kernel
theorem dX11_init_81 : decode cX11_init 81 = .ok (.getfield 12, 3) := by decide +kernel
theorem dX11_init_84 : decode cX11_init 84 = .ok (.sipush 200, 3) := by decide +kernel
theorem dX11_init_87 : decode cX11_init 87 = .ok (.invokevirtual 47, 3) := by decide +kernel
theorem dX11_init_90 : decode cX11_init 90 = .ok (.pop, 1) := by decide +kernel
theorem dX11_init_91 : decode cX11_init 91 = .ok (.aload_n 0, 1) := by decide +kernel
theorem dX11_init_92 : decode cX11_init 92 = .ok (.getfield 12, 3) := by decide +kernel
theorem dX11_init_95 : decode cX11_init 95 = .ok (.bipush 50, 2) := by decide +kernel
theorem dX11_init_97 : decode cX11_init 97 = .ok (.invokevirtual 47, 3) := by decide +kernel
theorem dX11_init_100 : decode cX11_init 100 = .ok (.pop, 1) := by decide +kernel
theorem dX11_init_101 : decode cX11_init 101 = .ok (.aload_n 0, 1) := by decide +kernel
theorem dX11_init_102 : decode cX11_init 102 = .ok (.getfield 12, 3) := by decide +kernel
theorem dX11_init_105 : decode cX11_init 105 = .ok (.aload_n 0, 1) := by decide +kernel
theorem dX11_init_106 : decode cX11_init 106 = .ok (.getfield 12, 3) := by decide +kernel
theorem dX11_init_109 : decode cX11_init 109 = .ok (.iconst 0, 1) := by decide +kernel
theorem dX11_init_110 : decode cX11_init 110 = .ok (.invokevirtual 51, 3) := by decide +kernel
theorem dX11_init_113 : decode cX11_init 113 = .ok (.bipush 50, 2) := by decide +kernel
theorem dX11_init_115 : decode cX11_init 115 = .ok (.sipush 760, 3) := by decide +kernel
theorem dX11_init_118 : decode cX11_init 118 = .ok (.invokevirtual 55, 3) := by decide +kernel
theorem dX11_init_121 : decode cX11_init 121 = .ok (.aload_n 0, 1) := by decide +kernel
theorem dX11_init_122 : decode cX11_init 122 = .ok (.getfield 12, 3) := by decide +kernel
theorem dX11_init_125 : decode cX11_init 125 = .ok (.aload_n 0, 1) := by decide +kernel
theorem dX11_init_126 : decode cX11_init 126 = .ok (.getfield 12, 3) := by decide +kernel
theorem dX11_init_129 : decode cX11_init 129 = .ok (.iconst 1, 1) := by decide +kernel
theorem dX11_init_130 : decode cX11_init 130 = .ok (.invokevirtual 51, 3) := by decide +kernel
theorem dX11_init_133 : decode cX11_init 133 = .ok (.sipush 200, 3) := by decide +kernel
theorem dX11_init_136 : decode cX11_init 136 = .ok (.sipush 780, 3) := by decide +kernel
theorem dX11_init_139 : decode cX11_init 139 = .ok (.invokevirtual 55, 3) := by decide +kernel
theorem dX11_init_142 : decode cX11_init 142 = .ok (.aload_n 0, 1) := by decide +kernel
theorem dX11_init_143 : decode cX11_init 143 = .ok (.getfield 12, 3) := by decide +kernel
theorem dX11_init_146 : decode cX11_init 146 = .ok (.iconst 0, 1) := by decide +kernel
theorem dX11_init_147 : decode cX11_init 147 = .ok (.invokevirtual 51, 3) := by decide +kernel
theorem dX11_init_150 : decode cX11_init 150 = .ok (.iconst 3, 1) := by decide +kernel
theorem dX11_init_151 : decode cX11_init 151 = .ok (.putfield 59, 3) := by decide +kernel
theorem dX11_init_154 : decode cX11_init 154 = .ok (.aload_n 0, 1) := by decide +kernel
theorem dX11_init_155 : decode cX11_init 155 = .ok (.getfield 12, 3) := by decide +kernel
theorem dX11_init_158 : decode cX11_init 158 = .ok (.iconst 1, 1) := by decide +kernel
theorem dX11_init_159 : decode cX11_init 159 = .ok (.invokevirtual 51, 3) := by decide +kernel
theorem dX11_init_162 : decode cX11_init 162 = .ok (.iconst 4, 1) := by decide +kernel
theorem dX11_init_163 : decode cX11_init 163 = .ok (.putfield 59, 3) := by decide +kernel
theorem dX11_init_166 : decode cX11_init 166 = .ok (.aload_n 0, 1) := by decide +kernel
theorem dX11_init_167 : decode cX11_init 167 = .ok (.getfield 12, 3) := by decide +kernel
theorem dX11_init_170 : decode cX11_init 170 = .ok (.getfield 63, 3) := by decide +kernel
theorem dX11_init_173 : decode cX11_init 173 = .ok (.iconst 1, 1) := by decide +kernel
theorem dX11_init_174 : decode cX11_init 174 = .ok (.invokevirtual 67, 3) := by decide +kernel
theorem dX11_init_177 : decode cX11_init 177 = .ok (.aload_n 0, 1) := by decide +kernel
theorem dX11_init_178 : decode cX11_init 178 = .ok (.getfield 12, 3) := by decide +kernel
theorem dX11_init_181 : decode cX11_init 181 = .ok (.iconst 0, 1) := by decide +kernel
theorem dX11_init_182 : decode cX11_init 182 = .ok (.iconst 1, 1) := by decide +kernel
theorem dX11_init_183 : decode cX11_init 183 = .ok (.bipush 10, 2) := by decide +kernel
theorem dX11_init_185 : decode cX11_init 185 = .ok (.invokevirtual 73, 3) := by decide +kernel
theorem dX11_init_188 : decode cX11_init 188 = .ok (.pop, 1) := by decide +kernel
theorem dX11_init_189 : decode cX11_init 189 = .ok (.aload_n 0, 1) := by decide +kernel
theorem dX11_init_190 : decode cX11_init 190 = .ok (.getfield 12, 3) := by decide +kernel
theorem dX11_init_193 : decode cX11_init 193 = .ok (.iconst 1, 1) := by decide +kernel
theorem dX11_init_194 : decode cX11_init 194 = .ok (.iconst 0, 1) := by decide +kernel
theorem dX11_init_195 : decode cX11_init 195 = .ok (.bipush (-5), 2) := by decide +kernel
theorem dX11_init_197 : decode cX11_init 197 = .ok (.invokevirtual 73, 3) := by decide +kernel
theorem dX11_init_200 : decode cX11_init 200 = .ok (.pop, 1) := by decide +kernel
theorem dX11_init_201 : decode cX11_init 201 = .ok (.aload_n 0, 1) := by decide +kernel
theorem dX11_init_202 : decode cX11_init 202 = .ok (.getfield 12, 3) := by decide +kernel
theorem dX11_init_205 : decode cX11_init 205 = .ok (.iconst 2, 1) := by decide +kernel
theorem dX11_init_206 : decode cX11_init 206 = .ok (.invokevirtual 77, 3) := by decide +kernel
theorem dX11_init_209 : decode cX11_init 209 = .ok (.aload_n 0, 1) := by decide +kernel
theorem dX11_init_210 : decode cX11_init 210 = .ok (.getfield 12, 3) := by decide +kernel
theorem dX11_init_213 : decode cX11_init 213 = .ok (.iconst 0, 1) := by decide +kernel
theorem dX11_init_214 : decode cX11_init 214 = .ok (.invokevirtual 51, 3) := by decide +kernel
theorem dX11_init_217 : decode cX11_init 217 = .ok (.iconst 0, 1) := by decide +kernel
theorem dX11_init_218 : decode cX11_init 218 = .ok (.putfield 80, 3) := by decide +kernel
theorem dX11_init_221 : decode cX11_init 221 = .ok (.aload_n 0, 1) := by decide +kernel
theorem dX11_init_222 : decode cX11_init 222 = .ok (.getfield 12, 3) := by decide +kernel
theorem dX11_init_225 : decode cX11_init 225 = .ok (.iconst 1, 1) := by decide +kernel
theorem dX11_init_226 : decode cX11_init 226 = .ok (.invokevirtual 77, 3) := by decide +kernel
theorem dX11_init_229 : decode cX11_init 229 = .ok (.return_, 1) := by decide +kernel
theorem dX11_addTrough_0 : decode cX11_addTrough 0 = .ok (.iload_n 1, 1) := by decide +kernel
theorem dX11_addTrough_1 : decode cX11_addTrough 1 = .ok (.bipush 10, 2) := by decide +kernel
theorem dX11_addTrough_3 : decode cX11_addTrough 3 = .ok (.sipush 500, 3) := by decide +kernel
theorem dX11_addTrough_6 : decode cX11_addTrough 6 = .ok (.invokestatic 96, 3) := by decide +kernel
theorem dX11_addTrough_9 : decode cX11_addTrough 9 = .ok (.aload_n 0, 1) := by decide +kernel
theorem dX11_addTrough_10 : decode cX11_addTrough 10 = .ok (.getfield 12, 3) := by decide +kernel
theorem dX11_addTrough_13 : decode cX11_addTrough 13 = .ok (.invokevirtual 117, 3) := by decide +kernel
theorem dX11_addTrough_16 : decode cX11_addTrough 16 = .ok (.ifCond .ne 7, 3) := by decide +kernel
theorem dX11_addTrough_19 : decode cX11_addTrough 19 = .ok (.iconst 1, 1) := by decide +kernel
theorem dX11_addTrough_20 : decode cX11_addTrough 20 = .ok (.goto 4, 3) := by decide +kernel
theorem dX11_addTrough_23 : decode cX11_addTrough 23 = .ok (.iconst 0, 1) := by decide +kernel
theorem dX11_addTrough_24 : decode cX11_addTrough 24 = .ok (.invokestatic 120, 3) := by decide +kernel
theorem dX11_addTrough_27 : decode cX11_addTrough 27 = .ok (.aload_n 0, 1) := by decide +kernel
theorem dX11_addTrough_28 : decode cX11_addTrough 28 = .ok (.getfield 22, 3) := by decide +kernel
theorem dX11_addTrough_31 : decode cX11_addTrough 31 = .ok (.aload_n 0, 1) := by decide +kernel
theorem dX11_addTrough_32 : decode cX11_addTrough 32 = .ok (.getfield 12, 3) := by decide +kernel
theorem dX11_addTrough_35 : decode cX11_addTrough 35 = .ok (.invokevirtual 104, 3) := by decide +kernel
theorem dX11_addTrough_38 : decode cX11_addTrough 38 = .ok (.aload_n 0, 1) := by decide +kernel
theorem dX11_addTrough_39 : decode cX11_addTrough 39 = .ok (.getfield 12, 3) := by decide +kernel
theorem dX11_addTrough_42 : decode cX11_addTrough 42 = .ok (.iload_n 1, 1) := by decide +kernel
theorem dX11_addTrough_43 : decode cX11_addTrough 43 = .ok (.invokevirtual 47, 3) := by decide +kernel
theorem dX11_addTrough_46 : decode cX11_addTrough 46 = .ok (.ireturn, 1) := by decide +kernel
theorem dX11_load_0 : decode cX11_load 0 = .ok (.aload_n 0, 1) := by decide +kernel
theorem dX11_load_1 : decode cX11_load 1 = .ok (.iload_n 1, 1) := by decide +kernel
theorem dX11_load_2 : decode cX11_load 2 = .ok (.invokevirtual 124, 3) := by decide +kernel
theorem dX11_load_5 : decode cX11_load 5 = .ok (.astore 4, 2) := by decide +kernel
theorem dX11_load_7 : decode cX11_load 7 = .ok (.iload_n 2, 1) := by decide +kernel
theorem dX11_load_8 : decode cX11_load 8 = .ok (.iconst 1, 1) := by decide +kernel
theorem dX11_load_9 : decode cX11_load 9 = .ok (.aload 4, 2) := by decide +kernel
theorem dX11_load_11 : decode cX11_load 11 = .ok (.getfield 127, 3) := by decide +kernel
theorem dX11_load_14 : decode cX11_load 14 = .ok (.invokestatic 96, 3) := by decide +kernel
theorem dX11_load_17 : decode cX11_load 17 = .ok (.iload_n 3, 1) := by decide +kernel
theorem dX11_load_18 : decode cX11_load 18 = .ok (.sipush 600, 3) := by decide +kernel
theorem dX11_load_21 : decode cX11_load 21 = .ok (.sipush 900, 3) := by decide +kernel
theorem dX11_load_24 : decode cX11_load 24 = .ok (.invokestatic 96, 3) := by decide +kernel
theorem dX11_load_27 : decode cX11_load 27 = .ok (.aload 4, 2) := by decide +kernel
theorem dX11_load_29 : decode cX11_load 29 = .ok (.invokevirtual 130, 3) := by decide +kernel
theorem dX11_load_32 : decode cX11_load 32 = .ok (.invokestatic 120, 3) := by decide +kernel
theorem dX11_load_35 : decode cX11_load 35 = .ok (.aload_n 0, 1) := by decide +kernel
theorem dX11_load_36 : decode cX11_load 36 = .ok (.getfield 22, 3) := by decide +kernel
theorem dX11_load_39 : decode cX11_load 39 = .ok (.aload_n 0, 1) := by decide +kernel
theorem dX11_load_40 : decode cX11_load 40 = .ok (.getfield 12, 3) := by decide +kernel
theorem dX11_load_43 : decode cX11_load 43 = .ok (.invokevirtual 104, 3) := by decide +kernel
theorem dX11_load_46 : decode cX11_load 46 = .ok (.aload_n 0, 1) := by decide +kernel
theorem dX11_load_47 : decode cX11_load 47 = .ok (.getfield 12, 3) := by decide +kernel
theorem dX11_load_50 : decode cX11_load 50 = .ok (.aload 4, 2) := by decide +kernel
theorem dX11_load_52 : decode cX11_load 52 = .ok (.iload_n 2, 1) := by decide +kernel
theorem dX11_load_53 : decode cX11_load 53 = .ok (.iload_n 3, 1) := by decide +kernel
theorem dX11_load_54 : decode cX11_load 54 = .ok (.invokevirtual 55, 3) := by decide +kernel
theorem dX11_load_57 : decode cX11_load 57 = .ok (.aload 4, 2) := by decide +kernel
theorem dX11_load_59 : decode cX11_load 59 = .ok (.getfield 133, 3) := by decide +kernel
theorem dX11_load_62 : decode cX11_load 62 = .ok (.ireturn, 1) := by decide +kernel
theorem dX11_setFan_0 : decode cX11_setFan 0 = .ok (.aload_n 0, 1) := by decide +kernel
theorem dX11_setFan_1 : decode cX11_setFan 1 = .ok (.iload_n 1, 1) := by decide +kernel
theorem dX11_setFan_2 : decode cX11_setFan 2 = .ok (.invokevirtual 124, 3) := by decide +kernel
theorem dX11_setFan_5 : decode cX11_setFan 5 = .ok (.astore_n 3, 1) := by decide +kernel
theorem dX11_setFan_6 : decode cX11_setFan 6 = .ok (.iload_n 2, 1) := by decide +kernel
theorem dX11_setFan_7 : decode cX11_setFan 7 = .ok (.iconst 0, 1) := by decide +kernel
theorem dX11_setFan_8 : decode cX11_setFan 8 = .ok (.iconst 5, 1) := by decide +kernel
theorem dX11_setFan_9 : decode cX11_setFan 9 = .ok (.invokestatic 96, 3) := by decide +kernel
theorem dX11_setFan_12 : decode cX11_setFan 12 = .ok (.aload_n 0, 1) := by decide +kernel
theorem dX11_setFan_13 : decode cX11_setFan 13 = .ok (.getfield 22, 3) := by decide +kernel
theorem dX11_setFan_16 : decode cX11_setFan 16 = .ok (.aload_n 0, 1) := by decide +kernel
theorem dX11_setFan_17 : decode cX11_setFan 17 = .ok (.getfield 12, 3) := by decide +kernel
theorem dX11_setFan_20 : decode cX11_setFan 20 = .ok (.invokevirtual 104, 3) := by decide +kernel
theorem dX11_setFan_23 : decode cX11_setFan 23 = .ok (.aload_n 3, 1) := by decide +kernel
theorem dX11_setFan_24 : decode cX11_setFan 24 = .ok (.getfield 59, 3) := by decide +kernel
theorem dX11_setFan_27 : decode cX11_setFan 27 = .ok (.istore 4, 2) := by decide +kernel
theorem dX11_setFan_29 : decode cX11_setFan 29 = .ok (.aload_n 3, 1) := by decide +kernel
theorem dX11_setFan_30 : decode cX11_setFan 30 = .ok (.iload_n 2, 1) := by decide +kernel
theorem dX11_setFan_31 : decode cX11_setFan 31 = .ok (.putfield 59, 3) := by decide +kernel
theorem dX11_setFan_34 : decode cX11_setFan 34 = .ok (.iload 4, 2) := by decide +kernel
theorem dX11_setFan_36 : decode cX11_setFan 36 = .ok (.ireturn, 1) := by decide +kernel
theorem dX11_reverse_0 : decode cX11_reverse 0 = .ok (.aload_n 0, 1) := by decide +kernel
theorem dX11_reverse_1 : decode cX11_reverse 1 = .ok (.iload_n 1, 1) := by decide +kernel
theorem dX11_reverse_2 : decode cX11_reverse 2 = .ok (.invokevirtual 124, 3) := by decide +kernel
theorem dX11_reverse_5 : decode cX11_reverse 5 = .ok (.astore_n 2, 1) := by decide +kernel
theorem dX11_reverse_6 : decode cX11_reverse 6 = .ok (.aload_n 0, 1) := by decide +kernel
theorem dX11_reverse_7 : decode cX11_reverse 7 = .ok (.getfield 22, 3) := by decide +kernel
theorem dX11_reverse_10 : decode cX11_reverse 10 = .ok (.aload_n 0, 1) := by decide +kernel
theorem dX11_reverse_11 : decode cX11_reverse 11 = .ok (.getfield 12, 3) := by decide +kernel
theorem dX11_reverse_14 : decode cX11_reverse 14 = .ok (.invokevirtual 104, 3) := by decide +kernel
theorem dX11_reverse_17 : decode cX11_reverse 17 = .ok (.aload_n 2, 1) := by decide +kernel
theorem dX11_reverse_18 : decode cX11_reverse 18 = .ok (.aload_n 2, 1) := by decide +kernel
theorem dX11_reverse_19 : decode cX11_reverse 19 = .ok (.getfield 80, 3) := by decide +kernel
theorem dX11_reverse_22 : decode cX11_reverse 22 = .ok (.ifCond .ne 7, 3) := by decide +kernel
theorem dX11_reverse_25 : decode cX11_reverse 25 = .ok (.iconst 1, 1) := by decide +kernel
theorem dX11_reverse_26 : decode cX11_reverse 26 = .ok (.goto 4, 3) := by decide +kernel
theorem dX11_reverse_29 : decode cX11_reverse 29 = .ok (.iconst 0, 1) := by decide +kernel
theorem dX11_reverse_30 : decode cX11_reverse 30 = .ok (.putfield 80, 3) := by decide +kernel
theorem dX11_reverse_33 : decode cX11_reverse 33 = .ok (.aload_n 2, 1) := by decide +kernel
theorem dX11_reverse_34 : decode cX11_reverse 34 = .ok (.getfield 80, 3) := by decide +kernel
theorem dX11_reverse_37 : decode cX11_reverse 37 = .ok (.ireturn, 1) := by decide +kernel
theorem dX11_setHeat_0 : decode cX11_setHeat 0 = .ok (.iload_n 1, 1) := by decide +kernel
theorem dX11_setHeat_1 : decode cX11_setHeat 1 = .ok (.iconst 0, 1) := by decide +kernel
theorem dX11_setHeat_2 : decode cX11_setHeat 2 = .ok (.iconst 5, 1) := by decide +kernel
theorem dX11_setHeat_3 : decode cX11_setHeat 3 = .ok (.invokestatic 96, 3) := by decide +kernel
theorem dX11_setHeat_6 : decode cX11_setHeat 6 = .ok (.aload_n 0, 1) := by decide +kernel
theorem dX11_setHeat_7 : decode cX11_setHeat 7 = .ok (.getfield 22, 3) := by decide +kernel
theorem dX11_setHeat_10 : decode cX11_setHeat 10 = .ok (.aload_n 0, 1) := by decide +kernel
theorem dX11_setHeat_11 : decode cX11_setHeat 11 = .ok (.getfield 12, 3) := by decide +kernel
theorem dX11_setHeat_14 : decode cX11_setHeat 14 = .ok (.invokevirtual 104, 3) := by decide +kernel
theorem dX11_setHeat_17 : decode cX11_setHeat 17 = .ok (.aload_n 0, 1) := by decide +kernel
theorem dX11_setHeat_18 : decode cX11_setHeat 18 = .ok (.getfield 12, 3) := by decide +kernel
theorem dX11_setHeat_21 : decode cX11_setHeat 21 = .ok (.getfield 63, 3) := by decide +kernel
theorem dX11_setHeat_24 : decode cX11_setHeat 24 = .ok (.getfield 136, 3) := by decide +kernel
theorem dX11_setHeat_27 : decode cX11_setHeat 27 = .ok (.istore_n 2, 1) := by decide +kernel
theorem dX11_setHeat_28 : decode cX11_setHeat 28 = .ok (.aload_n 0, 1) := by decide +kernel
theorem dX11_setHeat_29 : decode cX11_setHeat 29 = .ok (.getfield 12, 3) := by decide +kernel
theorem dX11_setHeat_32 : decode cX11_setHeat 32 = .ok (.getfield 63, 3) := by decide +kernel
theorem dX11_setHeat_35 : decode cX11_setHeat 35 = .ok (.iload_n 1, 1) := by decide +kernel
theorem dX11_setHeat_36 : decode cX11_setHeat 36 = .ok (.putfield 136, 3) := by decide +kernel
theorem dX11_setHeat_39 : decode cX11_setHeat 39 = .ok (.iload_n 2, 1) := by decide +kernel
theorem dX11_setHeat_40 : decode cX11_setHeat 40 = .ok (.ireturn, 1) := by decide +kernel
theorem dX11_setHumidity_0 : decode cX11_setHumidity 0 = .ok (.iload_n 1, 1) := by decide +kernel
theorem dX11_setHumidity_1 : decode cX11_setHumidity 1 = .ok (.bipush 20, 2) := by decide +kernel
theorem dX11_setHumidity_3 : decode cX11_setHumidity 3 = .ok (.bipush 95, 2) := by decide +kernel
theorem dX11_setHumidity_5 : decode cX11_setHumidity 5 = .ok (.invokestatic 96, 3) := by decide +kernel
theorem dX11_setHumidity_8 : decode cX11_setHumidity 8 = .ok (.aload_n 0, 1) := by decide +kernel
theorem dX11_setHumidity_9 : decode cX11_setHumidity 9 = .ok (.getfield 22, 3) := by decide +kernel
theorem dX11_setHumidity_12 : decode cX11_setHumidity 12 = .ok (.aload_n 0, 1) := by decide +kernel
theorem dX11_setHumidity_13 : decode cX11_setHumidity 13 = .ok (.getfield 12, 3) := by decide +kernel
theorem dX11_setHumidity_16 : decode cX11_setHumidity 16 = .ok (.invokevirtual 104, 3) := by decide +kernel
theorem dX11_setHumidity_19 : decode cX11_setHumidity 19 = .ok (.aload_n 0, 1) := by decide +kernel
theorem dX11_setHumidity_20 : decode cX11_setHumidity 20 = .ok (.getfield 12, 3) := by decide +kernel
theorem dX11_setHumidity_23 : decode cX11_setHumidity 23 = .ok (.getfield 63, 3) := by decide +kernel
theorem dX11_setHumidity_26 : decode cX11_setHumidity 26 = .ok (.getfield 139, 3) := by decide +kernel
theorem dX11_setHumidity_29 : decode cX11_setHumidity 29 = .ok (.istore_n 2, 1) := by decide +kernel
theorem dX11_setHumidity_30 : decode cX11_setHumidity 30 = .ok (.aload_n 0, 1) := by decide +kernel
theorem dX11_setHumidity_31 : decode cX11_setHumidity 31 = .ok (.getfield 12, 3) := by decide +kernel
theorem dX11_setHumidity_34 : decode cX11_setHumidity 34 = .ok (.getfield 63, 3) := by decide +kernel
theorem dX11_setHumidity_37 : decode cX11_setHumidity 37 = .ok (.iload_n 1, 1) := by decide +kernel
theorem dX11_setHumidity_38 : decode cX11_setHumidity 38 = .ok (.putfield 139, 3) := by decide +kernel
theorem dX11_setHumidity_41 : decode cX11_setHumidity 41 = .ok (.iload_n 2, 1) := by decide +kernel
theorem dX11_setHumidity_42 : decode cX11_setHumidity 42 = .ok (.ireturn, 1) := by decide +kernel
theorem dX11_announceMonsoon_0 : decode cX11_announceMonsoon 0 = .ok (.iload_n 1, 1) := by decide +kernel
theorem dX11_announceMonsoon_1 : decode cX11_announceMonsoon 1 = .ok (.aload_n 0, 1) := by decide +kernel
theorem dX11_announceMonsoon_2 : decode cX11_announceMonsoon 2 = .ok (.getfield 12, 3) := by decide +kernel
theorem dX11_announceMonsoon_5 : decode cX11_announceMonsoon 5 = .ok (.getfield 63, 3) := by decide +kernel
theorem dX11_announceMonsoon_8 : decode cX11_announceMonsoon 8 = .ok (.invokevirtual 142, 3) := by decide +kernel
theorem dX11_announceMonsoon_11 : decode cX11_announceMonsoon 11 = .ok (.bipush 83, 2) := by decide +kernel
theorem dX11_announceMonsoon_13 : decode cX11_announceMonsoon 13 = .ok (.invokestatic 96, 3) := by decide +kernel
theorem dX11_announceMonsoon_16 : decode cX11_announceMonsoon 16 = .ok (.aload_n 0, 1) := by decide +kernel
theorem dX11_announceMonsoon_17 : decode cX11_announceMonsoon 17 = .ok (.getfield 12, 3) := by decide +kernel
theorem dX11_announceMonsoon_20 : decode cX11_announceMonsoon 20 = .ok (.getfield 63, 3) := by decide +kernel
theorem dX11_announceMonsoon_23 : decode cX11_announceMonsoon 23 = .ok (.invokevirtual 146, 3) := by decide +kernel
theorem dX11_announceMonsoon_26 : decode cX11_announceMonsoon 26 = .ok (.ifCond .ne 7, 3) := by decide +kernel
theorem dX11_announceMonsoon_29 : decode cX11_announceMonsoon 29 = .ok (.iconst 1, 1) := by decide +kernel
theorem dX11_announceMonsoon_30 : decode cX11_announceMonsoon 30 = .ok (.goto 4, 3) := by decide +kernel
theorem dX11_announceMonsoon_33 : decode cX11_announceMonsoon 33 = .ok (.iconst 0, 1) := by decide +kernel
theorem dX11_announceMonsoon_34 : decode cX11_announceMonsoon 34 = .ok (.invokestatic 120, 3) := by decide +kernel
theorem dX11_announceMonsoon_37 : decode cX11_announceMonsoon 37 = .ok (.aload_n 0, 1) := by decide +kernel
theorem dX11_announceMonsoon_38 : decode cX11_announceMonsoon 38 = .ok (.getfield 22, 3) := by decide +kernel
theorem dX11_announceMonsoon_41 : decode cX11_announceMonsoon 41 = .ok (.aload_n 0, 1) := by decide +kernel
theorem dX11_announceMonsoon_42 : decode cX11_announceMonsoon 42 = .ok (.getfield 12, 3) := by decide +kernel
theorem dX11_announceMonsoon_45 : decode cX11_announceMonsoon 45 = .ok (.invokevirtual 104, 3) := by decide +kernel
theorem dX11_announceMonsoon_48 : decode cX11_announceMonsoon 48 = .ok (.aload_n 0, 1) := by decide +kernel
theorem dX11_announceMonsoon_49 : decode cX11_announceMonsoon 49 = .ok (.getfield 12, 3) := by decide +kernel
theorem dX11_announceMonsoon_52 : decode cX11_announceMonsoon 52 = .ok (.getfield 63, 3) := by decide +kernel
theorem dX11_announceMonsoon_55 : decode cX11_announceMonsoon 55 = .ok (.iload_n 1, 1) := by decide +kernel
theorem dX11_announceMonsoon_56 : decode cX11_announceMonsoon 56 = .ok (.invokevirtual 67, 3) := by decide +kernel
theorem dX11_announceMonsoon_59 : decode cX11_announceMonsoon 59 = .ok (.aload_n 0, 1) := by decide +kernel
theorem dX11_announceMonsoon_60 : decode cX11_announceMonsoon 60 = .ok (.getfield 12, 3) := by decide +kernel
theorem dX11_announceMonsoon_63 : decode cX11_announceMonsoon 63 = .ok (.getfield 63, 3) := by decide +kernel
theorem dX11_announceMonsoon_66 : decode cX11_announceMonsoon 66 = .ok (.getfield 149, 3) := by decide +kernel
theorem dX11_announceMonsoon_69 : decode cX11_announceMonsoon 69 = .ok (.ireturn, 1) := by decide +kernel
theorem dX11_setTarget_0 : decode cX11_setTarget 0 = .ok (.iload_n 1, 1) := by decide +kernel
theorem dX11_setTarget_1 : decode cX11_setTarget 1 = .ok (.sipush 500, 3) := by decide +kernel
theorem dX11_setTarget_4 : decode cX11_setTarget 4 = .ok (.sipush 700, 3) := by decide +kernel
theorem dX11_setTarget_7 : decode cX11_setTarget 7 = .ok (.invokestatic 96, 3) := by decide +kernel
theorem dX11_setTarget_10 : decode cX11_setTarget 10 = .ok (.iload_n 2, 1) := by decide +kernel
theorem dX11_setTarget_11 : decode cX11_setTarget 11 = .ok (.iconst 5, 1) := by decide +kernel
theorem dX11_setTarget_12 : decode cX11_setTarget 12 = .ok (.bipush 50, 2) := by decide +kernel
theorem dX11_setTarget_14 : decode cX11_setTarget 14 = .ok (.invokestatic 96, 3) := by decide +kernel
theorem dX11_setTarget_17 : decode cX11_setTarget 17 = .ok (.aload_n 0, 1) := by decide +kernel
theorem dX11_setTarget_18 : decode cX11_setTarget 18 = .ok (.getfield 22, 3) := by decide +kernel
theorem dX11_setTarget_21 : decode cX11_setTarget 21 = .ok (.aload_n 0, 1) := by decide +kernel
theorem dX11_setTarget_22 : decode cX11_setTarget 22 = .ok (.getfield 12, 3) := by decide +kernel
theorem dX11_setTarget_25 : decode cX11_setTarget 25 = .ok (.invokevirtual 104, 3) := by decide +kernel
theorem dX11_setTarget_28 : decode cX11_setTarget 28 = .ok (.aload_n 0, 1) := by decide +kernel
theorem dX11_setTarget_29 : decode cX11_setTarget 29 = .ok (.getfield 12, 3) := by decide +kernel
theorem dX11_setTarget_32 : decode cX11_setTarget 32 = .ok (.iload_n 1, 1) := by decide +kernel
theorem dX11_setTarget_33 : decode cX11_setTarget 33 = .ok (.iload_n 2, 1) := by decide +kernel
theorem dX11_setTarget_34 : decode cX11_setTarget 34 = .ok (.invokevirtual 152, 3) := by decide +kernel
theorem dX11_setTarget_37 : decode cX11_setTarget 37 = .ok (.aload_n 0, 1) := by decide +kernel
theorem dX11_setTarget_38 : decode cX11_setTarget 38 = .ok (.getfield 12, 3) := by decide +kernel
theorem dX11_setTarget_41 : decode cX11_setTarget 41 = .ok (.invokevirtual 156, 3) := by decide +kernel
theorem dX11_setTarget_44 : decode cX11_setTarget 44 = .ok (.invokestatic 159, 3) := by decide +kernel
theorem dX11_setTarget_47 : decode cX11_setTarget 47 = .ok (.ireturn, 1) := by decide +kernel
theorem dX11_turnLeaf_0 : decode cX11_turnLeaf 0 = .ok (.aload_n 0, 1) := by decide +kernel
theorem dX11_turnLeaf_1 : decode cX11_turnLeaf 1 = .ok (.iload_n 1, 1) := by decide +kernel
theorem dX11_turnLeaf_2 : decode cX11_turnLeaf 2 = .ok (.invokevirtual 124, 3) := by decide +kernel
theorem dX11_turnLeaf_5 : decode cX11_turnLeaf 5 = .ok (.astore_n 2, 1) := by decide +kernel
theorem dX11_turnLeaf_6 : decode cX11_turnLeaf 6 = .ok (.aload_n 2, 1) := by decide +kernel
theorem dX11_turnLeaf_7 : decode cX11_turnLeaf 7 = .ok (.invokevirtual 130, 3) := by decide +kernel
theorem dX11_turnLeaf_10 : decode cX11_turnLeaf 10 = .ok (.ifCond .ne 7, 3) := by decide +kernel
theorem dX11_turnLeaf_13 : decode cX11_turnLeaf 13 = .ok (.iconst 1, 1) := by decide +kernel
theorem dX11_turnLeaf_14 : decode cX11_turnLeaf 14 = .ok (.goto 4, 3) := by decide +kernel
theorem dX11_turnLeaf_17 : decode cX11_turnLeaf 17 = .ok (.iconst 0, 1) := by decide +kernel
theorem dX11_turnLeaf_18 : decode cX11_turnLeaf 18 = .ok (.invokestatic 120, 3) := by decide +kernel
theorem dX11_turnLeaf_21 : decode cX11_turnLeaf 21 = .ok (.aload_n 0, 1) := by decide +kernel
theorem dX11_turnLeaf_22 : decode cX11_turnLeaf 22 = .ok (.getfield 22, 3) := by decide +kernel
theorem dX11_turnLeaf_25 : decode cX11_turnLeaf 25 = .ok (.aload_n 0, 1) := by decide +kernel
theorem dX11_turnLeaf_26 : decode cX11_turnLeaf 26 = .ok (.getfield 12, 3) := by decide +kernel
theorem dX11_turnLeaf_29 : decode cX11_turnLeaf 29 = .ok (.invokevirtual 104, 3) := by decide +kernel
theorem dX11_turnLeaf_32 : decode cX11_turnLeaf 32 = .ok (.aload_n 2, 1) := by decide +kernel
theorem dX11_turnLeaf_33 : decode cX11_turnLeaf 33 = .ok (.invokevirtual 164, 3) := by decide +kernel
theorem dX11_turnLeaf_36 : decode cX11_turnLeaf 36 = .ok (.aload_n 2, 1) := by decide +kernel
theorem dX11_turnLeaf_37 : decode cX11_turnLeaf 37 = .ok (.getfield 167, 3) := by decide +kernel
theorem dX11_turnLeaf_40 : decode cX11_turnLeaf 40 = .ok (.ireturn, 1) := by decide +kernel
theorem dX11_discharge_0 : decode cX11_discharge 0 = .ok (.aload_n 0, 1) := by decide +kernel
theorem dX11_discharge_1 : decode cX11_discharge 1 = .ok (.iload_n 1, 1) := by decide +kernel
theorem dX11_discharge_2 : decode cX11_discharge 2 = .ok (.invokevirtual 124, 3) := by decide +kernel
theorem dX11_discharge_5 : decode cX11_discharge 5 = .ok (.astore_n 2, 1) := by decide +kernel
theorem dX11_discharge_6 : decode cX11_discharge 6 = .ok (.aload_n 0, 1) := by decide +kernel
theorem dX11_discharge_7 : decode cX11_discharge 7 = .ok (.getfield 12, 3) := by decide +kernel
theorem dX11_discharge_10 : decode cX11_discharge 10 = .ok (.aload_n 2, 1) := by decide +kernel
theorem dX11_discharge_11 : decode cX11_discharge 11 = .ok (.invokevirtual 170, 3) := by decide +kernel
theorem dX11_discharge_14 : decode cX11_discharge 14 = .ok (.ifCond .eq 7, 3) := by decide +kernel
theorem dX11_discharge_17 : decode cX11_discharge 17 = .ok (.iconst 1, 1) := by decide +kernel
theorem dX11_discharge_18 : decode cX11_discharge 18 = .ok (.goto 4, 3) := by decide +kernel
theorem dX11_discharge_21 : decode cX11_discharge 21 = .ok (.iconst 0, 1) := by decide +kernel
theorem dX11_discharge_22 : decode cX11_discharge 22 = .ok (.invokestatic 120, 3) := by decide +kernel
theorem dX11_discharge_25 : decode cX11_discharge 25 = .ok (.aload_n 0, 1) := by decide +kernel
theorem dX11_discharge_26 : decode cX11_discharge 26 = .ok (.getfield 22, 3) := by decide +kernel
theorem dX11_discharge_29 : decode cX11_discharge 29 = .ok (.aload_n 0, 1) := by decide +kernel
theorem dX11_discharge_30 : decode cX11_discharge 30 = .ok (.getfield 12, 3) := by decide +kernel
theorem dX11_discharge_33 : decode cX11_discharge 33 = .ok (.invokevirtual 104, 3) := by decide +kernel
theorem dX11_discharge_36 : decode cX11_discharge 36 = .ok (.aload_n 0, 1) := by decide +kernel
theorem dX11_discharge_37 : decode cX11_discharge 37 = .ok (.getfield 12, 3) := by decide +kernel
theorem dX11_discharge_40 : decode cX11_discharge 40 = .ok (.aload_n 2, 1) := by decide +kernel
theorem dX11_discharge_41 : decode cX11_discharge 41 = .ok (.invokevirtual 174, 3) := by decide +kernel
theorem dX11_discharge_44 : decode cX11_discharge 44 = .ok (.ireturn, 1) := by decide +kernel
theorem dX11_discard_0 : decode cX11_discard 0 = .ok (.aload_n 0, 1) := by decide +kernel
theorem dX11_discard_1 : decode cX11_discard 1 = .ok (.iload_n 1, 1) := by decide +kernel
theorem dX11_discard_2 : decode cX11_discard 2 = .ok (.invokevirtual 124, 3) := by decide +kernel
theorem dX11_discard_5 : decode cX11_discard 5 = .ok (.astore_n 2, 1) := by decide +kernel
theorem dX11_discard_6 : decode cX11_discard 6 = .ok (.aload_n 2, 1) := by decide +kernel
theorem dX11_discard_7 : decode cX11_discard 7 = .ok (.invokevirtual 130, 3) := by decide +kernel
theorem dX11_discard_10 : decode cX11_discard 10 = .ok (.ifCond .ne 7, 3) := by decide +kernel
theorem dX11_discard_13 : decode cX11_discard 13 = .ok (.iconst 1, 1) := by decide +kernel
theorem dX11_discard_14 : decode cX11_discard 14 = .ok (.goto 4, 3) := by decide +kernel
theorem dX11_discard_17 : decode cX11_discard 17 = .ok (.iconst 0, 1) := by decide +kernel
theorem dX11_discard_18 : decode cX11_discard 18 = .ok (.invokestatic 120, 3) := by decide +kernel
theorem dX11_discard_21 : decode cX11_discard 21 = .ok (.aload_n 0, 1) := by decide +kernel
theorem dX11_discard_22 : decode cX11_discard 22 = .ok (.getfield 22, 3) := by decide +kernel
theorem dX11_discard_25 : decode cX11_discard 25 = .ok (.aload_n 0, 1) := by decide +kernel
theorem dX11_discard_26 : decode cX11_discard 26 = .ok (.getfield 12, 3) := by decide +kernel
theorem dX11_discard_29 : decode cX11_discard 29 = .ok (.invokevirtual 104, 3) := by decide +kernel
theorem dX11_discard_32 : decode cX11_discard 32 = .ok (.aload_n 0, 1) := by decide +kernel
theorem dX11_discard_33 : decode cX11_discard 33 = .ok (.getfield 12, 3) := by decide +kernel
theorem dX11_discard_36 : decode cX11_discard 36 = .ok (.aload_n 2, 1) := by decide +kernel
theorem dX11_discard_37 : decode cX11_discard 37 = .ok (.invokevirtual 177, 3) := by decide +kernel
theorem dX11_discard_40 : decode cX11_discard 40 = .ok (.ireturn, 1) := by decide +kernel
theorem dX11_addProbe_0 : decode cX11_addProbe 0 = .ok (.aload_n 0, 1) := by decide +kernel
theorem dX11_addProbe_1 : decode cX11_addProbe 1 = .ok (.iload_n 1, 1) := by decide +kernel
theorem dX11_addProbe_2 : decode cX11_addProbe 2 = .ok (.invokevirtual 124, 3) := by decide +kernel
theorem dX11_addProbe_5 : decode cX11_addProbe 5 = .ok (.pop, 1) := by decide +kernel
theorem dX11_addProbe_6 : decode cX11_addProbe 6 = .ok (.iload_n 2, 1) := by decide +kernel
theorem dX11_addProbe_7 : decode cX11_addProbe 7 = .ok (.iconst 0, 1) := by decide +kernel
theorem dX11_addProbe_8 : decode cX11_addProbe 8 = .ok (.iconst 1, 1) := by decide +kernel
theorem dX11_addProbe_9 : decode cX11_addProbe 9 = .ok (.invokestatic 96, 3) := by decide +kernel
theorem dX11_addProbe_12 : decode cX11_addProbe 12 = .ok (.iload_n 3, 1) := by decide +kernel
theorem dX11_addProbe_13 : decode cX11_addProbe 13 = .ok (.bipush (-50), 2) := by decide +kernel
theorem dX11_addProbe_15 : decode cX11_addProbe 15 = .ok (.bipush 50, 2) := by decide +kernel
theorem dX11_addProbe_17 : decode cX11_addProbe 17 = .ok (.invokestatic 96, 3) := by decide +kernel
theorem dX11_addProbe_20 : decode cX11_addProbe 20 = .ok (.aload_n 0, 1) := by decide +kernel
theorem dX11_addProbe_21 : decode cX11_addProbe 21 = .ok (.getfield 12, 3) := by decide +kernel
theorem dX11_addProbe_24 : decode cX11_addProbe 24 = .ok (.invokevirtual 180, 3) := by decide +kernel
theorem dX11_addProbe_27 : decode cX11_addProbe 27 = .ok (.ifCond .ne 7, 3) := by decide +kernel
theorem dX11_addProbe_30 : decode cX11_addProbe 30 = .ok (.iconst 1, 1) := by decide +kernel
theorem dX11_addProbe_31 : decode cX11_addProbe 31 = .ok (.goto 4, 3) := by decide +kernel
theorem dX11_addProbe_34 : decode cX11_addProbe 34 = .ok (.iconst 0, 1) := by decide +kernel
theorem dX11_addProbe_35 : decode cX11_addProbe 35 = .ok (.invokestatic 120, 3) := by decide +kernel
theorem dX11_addProbe_38 : decode cX11_addProbe 38 = .ok (.aload_n 0, 1) := by decide +kernel
theorem dX11_addProbe_39 : decode cX11_addProbe 39 = .ok (.getfield 22, 3) := by decide +kernel
theorem dX11_addProbe_42 : decode cX11_addProbe 42 = .ok (.aload_n 0, 1) := by decide +kernel
theorem dX11_addProbe_43 : decode cX11_addProbe 43 = .ok (.getfield 12, 3) := by decide +kernel
theorem dX11_addProbe_46 : decode cX11_addProbe 46 = .ok (.invokevirtual 104, 3) := by decide +kernel
theorem dX11_addProbe_49 : decode cX11_addProbe 49 = .ok (.aload_n 0, 1) := by decide +kernel
theorem dX11_addProbe_50 : decode cX11_addProbe 50 = .ok (.getfield 12, 3) := by decide +kernel
theorem dX11_addProbe_53 : decode cX11_addProbe 53 = .ok (.iload_n 1, 1) := by decide +kernel
theorem dX11_addProbe_54 : decode cX11_addProbe 54 = .ok (.iload_n 2, 1) := by decide +kernel
theorem dX11_addProbe_55 : decode cX11_addProbe 55 = .ok (.iload_n 3, 1) := by decide +kernel
theorem dX11_addProbe_56 : decode cX11_addProbe 56 = .ok (.invokevirtual 73, 3) := by decide +kernel
theorem dX11_addProbe_59 : decode cX11_addProbe 59 = .ok (.ireturn, 1) := by decide +kernel
theorem dX11_moveProbe_0 : decode cX11_moveProbe 0 = .ok (.aload_n 0, 1) := by decide +kernel
theorem dX11_moveProbe_1 : decode cX11_moveProbe 1 = .ok (.iload_n 1, 1) := by decide +kernel
theorem dX11_moveProbe_2 : decode cX11_moveProbe 2 = .ok (.invokevirtual 183, 3) := by decide +kernel
theorem dX11_moveProbe_5 : decode cX11_moveProbe 5 = .ok (.astore 4, 2) := by decide +kernel
theorem dX11_moveProbe_7 : decode cX11_moveProbe 7 = .ok (.aload_n 0, 1) := by decide +kernel
theorem dX11_moveProbe_8 : decode cX11_moveProbe 8 = .ok (.iload_n 2, 1) := by decide +kernel
theorem dX11_moveProbe_9 : decode cX11_moveProbe 9 = .ok (.invokevirtual 124, 3) := by decide +kernel
theorem dX11_moveProbe_12 : decode cX11_moveProbe 12 = .ok (.pop, 1) := by decide +kernel
theorem dX11_moveProbe_13 : decode cX11_moveProbe 13 = .ok (.iload_n 3, 1) := by decide +kernel
theorem dX11_moveProbe_14 : decode cX11_moveProbe 14 = .ok (.iconst 0, 1) := by decide +kernel
theorem dX11_moveProbe_15 : decode cX11_moveProbe 15 = .ok (.iconst 1, 1) := by decide +kernel
theorem dX11_moveProbe_16 : decode cX11_moveProbe 16 = .ok (.invokestatic 96, 3) := by decide +kernel
theorem dX11_moveProbe_19 : decode cX11_moveProbe 19 = .ok (.aload_n 0, 1) := by decide +kernel
theorem dX11_moveProbe_20 : decode cX11_moveProbe 20 = .ok (.getfield 22, 3) := by decide +kernel
theorem dX11_moveProbe_23 : decode cX11_moveProbe 23 = .ok (.aload_n 0, 1) := by decide +kernel
theorem dX11_moveProbe_24 : decode cX11_moveProbe 24 = .ok (.getfield 12, 3) := by decide +kernel
theorem dX11_moveProbe_27 : decode cX11_moveProbe 27 = .ok (.invokevirtual 104, 3) := by decide +kernel
theorem dX11_moveProbe_30 : decode cX11_moveProbe 30 = .ok (.aload 4, 2) := by decide +kernel
theorem dX11_moveProbe_32 : decode cX11_moveProbe 32 = .ok (.getfield 187, 3) := by decide +kernel
theorem dX11_moveProbe_35 : decode cX11_moveProbe 35 = .ok (.istore 5, 2) := by decide +kernel
theorem dX11_moveProbe_37 : decode cX11_moveProbe 37 = .ok (.aload 4, 2) := by decide +kernel
theorem dX11_moveProbe_39 : decode cX11_moveProbe 39 = .ok (.iload_n 2, 1) := by decide +kernel
theorem dX11_moveProbe_40 : decode cX11_moveProbe 40 = .ok (.putfield 187, 3) := by decide +kernel
theorem dX11_moveProbe_43 : decode cX11_moveProbe 43 = .ok (.aload 4, 2) := by decide +kernel
theorem dX11_moveProbe_45 : decode cX11_moveProbe 45 = .ok (.iload_n 3, 1) := by decide +kernel
theorem dX11_moveProbe_46 : decode cX11_moveProbe 46 = .ok (.putfield 192, 3) := by decide +kernel
theorem dX11_moveProbe_49 : decode cX11_moveProbe 49 = .ok (.iload 5, 2) := by decide +kernel
theorem dX11_moveProbe_51 : decode cX11_moveProbe 51 = .ok (.ireturn, 1) := by decide +kernel
theorem dX11_calibrate_0 : decode cX11_calibrate 0 = .ok (.aload_n 0, 1) := by decide +kernel
theorem dX11_calibrate_1 : decode cX11_calibrate 1 = .ok (.iload_n 1, 1) := by decide +kernel
theorem dX11_calibrate_2 : decode cX11_calibrate 2 = .ok (.invokevirtual 183, 3) := by decide +kernel
theorem dX11_calibrate_5 : decode cX11_calibrate 5 = .ok (.astore_n 2, 1) := by decide +kernel
theorem dX11_calibrate_6 : decode cX11_calibrate 6 = .ok (.aload_n 0, 1) := by decide +kernel
theorem dX11_calibrate_7 : decode cX11_calibrate 7 = .ok (.getfield 22, 3) := by decide +kernel
theorem dX11_calibrate_10 : decode cX11_calibrate 10 = .ok (.aload_n 0, 1) := by decide +kernel
theorem dX11_calibrate_11 : decode cX11_calibrate 11 = .ok (.getfield 12, 3) := by decide +kernel
theorem dX11_calibrate_14 : decode cX11_calibrate 14 = .ok (.invokevirtual 104, 3) := by decide +kernel
theorem dX11_calibrate_17 : decode cX11_calibrate 17 = .ok (.aload_n 2, 1) := by decide +kernel
theorem dX11_calibrate_18 : decode cX11_calibrate 18 = .ok (.getfield 195, 3) := by decide +kernel
theorem dX11_calibrate_21 : decode cX11_calibrate 21 = .ok (.istore_n 3, 1) := by decide +kernel
theorem dX11_calibrate_22 : decode cX11_calibrate 22 = .ok (.aload_n 2, 1) := by decide +kernel
theorem dX11_calibrate_23 : decode cX11_calibrate 23 = .ok (.iconst 0, 1) := by decide +kernel
theorem dX11_calibrate_24 : decode cX11_calibrate 24 = .ok (.putfield 195, 3) := by decide +kernel
theorem dX11_calibrate_27 : decode cX11_calibrate 27 = .ok (.iload_n 3, 1) := by decide +kernel
theorem dX11_calibrate_28 : decode cX11_calibrate 28 = .ok (.ireturn, 1) := by decide +kernel
theorem dX11_passHours_0 : decode cX11_passHours 0 = .ok (.iload_n 1, 1) := by decide +kernel
theorem dX11_passHours_1 : decode cX11_passHours 1 = .ok (.iconst 1, 1) := by decide +kernel
theorem dX11_passHours_2 : decode cX11_passHours 2 = .ok (.sipush 200, 3) := by decide +kernel
theorem dX11_passHours_5 : decode cX11_passHours 5 = .ok (.invokestatic 96, 3) := by decide +kernel
theorem dX11_passHours_8 : decode cX11_passHours 8 = .ok (.aload_n 0, 1) := by decide +kernel
theorem dX11_passHours_9 : decode cX11_passHours 9 = .ok (.getfield 12, 3) := by decide +kernel
theorem dX11_passHours_12 : decode cX11_passHours 12 = .ok (.getfield 63, 3) := by decide +kernel
theorem dX11_passHours_15 : decode cX11_passHours 15 = .ok (.iload_n 1, 1) := by decide +kernel
theorem dX11_passHours_16 : decode cX11_passHours 16 = .ok (.invokevirtual 198, 3) := by decide +kernel
theorem dX11_passHours_19 : decode cX11_passHours 19 = .ok (.ifCond .ne 7, 3) := by decide +kernel
theorem dX11_passHours_22 : decode cX11_passHours 22 = .ok (.iconst 1, 1) := by decide +kernel
theorem dX11_passHours_23 : decode cX11_passHours 23 = .ok (.goto 4, 3) := by decide +kernel
theorem dX11_passHours_26 : decode cX11_passHours 26 = .ok (.iconst 0, 1) := by decide +kernel
theorem dX11_passHours_27 : decode cX11_passHours 27 = .ok (.invokestatic 120, 3) := by decide +kernel
theorem dX11_passHours_30 : decode cX11_passHours 30 = .ok (.aload_n 0, 1) := by decide +kernel
theorem dX11_passHours_31 : decode cX11_passHours 31 = .ok (.getfield 22, 3) := by decide +kernel
theorem dX11_passHours_34 : decode cX11_passHours 34 = .ok (.aload_n 0, 1) := by decide +kernel
theorem dX11_passHours_35 : decode cX11_passHours 35 = .ok (.getfield 12, 3) := by decide +kernel
theorem dX11_passHours_38 : decode cX11_passHours 38 = .ok (.invokevirtual 104, 3) := by decide +kernel
theorem dX11_passHours_41 : decode cX11_passHours 41 = .ok (.aload_n 0, 1) := by decide +kernel
theorem dX11_passHours_42 : decode cX11_passHours 42 = .ok (.getfield 12, 3) := by decide +kernel
theorem dX11_passHours_45 : decode cX11_passHours 45 = .ok (.iload_n 1, 1) := by decide +kernel
theorem dX11_passHours_46 : decode cX11_passHours 46 = .ok (.invokevirtual 77, 3) := by decide +kernel
theorem dX11_passHours_49 : decode cX11_passHours 49 = .ok (.aload_n 0, 1) := by decide +kernel
theorem dX11_passHours_50 : decode cX11_passHours 50 = .ok (.getfield 12, 3) := by decide +kernel
theorem dX11_passHours_53 : decode cX11_passHours 53 = .ok (.getfield 63, 3) := by decide +kernel
theorem dX11_passHours_56 : decode cX11_passHours 56 = .ok (.getfield 202, 3) := by decide +kernel
theorem dX11_passHours_59 : decode cX11_passHours 59 = .ok (.ireturn, 1) := by decide +kernel
theorem dX11_undo_0 : decode cX11_undo 0 = .ok (.aload_n 0, 1) := by decide +kernel
theorem dX11_undo_1 : decode cX11_undo 1 = .ok (.getfield 22, 3) := by decide +kernel
theorem dX11_undo_4 : decode cX11_undo 4 = .ok (.getfield 205, 3) := by decide +kernel
theorem dX11_undo_7 : decode cX11_undo 7 = .ok (.ifCond .ne 5, 3) := by decide +kernel
theorem dX11_undo_10 : decode cX11_undo 10 = .ok (.iconst (-1), 1) := by decide +kernel
theorem dX11_undo_11 : decode cX11_undo 11 = .ok (.ireturn, 1) := by decide +kernel
theorem dX11_undo_12 : decode cX11_undo 12 = .ok (.aload_n 0, 1) := by decide +kernel
theorem dX11_undo_13 : decode cX11_undo 13 = .ok (.getfield 22, 3) := by decide +kernel
theorem dX11_undo_16 : decode cX11_undo 16 = .ok (.aload_n 0, 1) := by decide +kernel
theorem dX11_undo_17 : decode cX11_undo 17 = .ok (.getfield 12, 3) := by decide +kernel
theorem dX11_undo_20 : decode cX11_undo 20 = .ok (.invokevirtual 208, 3) := by decide +kernel
theorem dX11_undo_23 : decode cX11_undo 23 = .ok (.aload_n 0, 1) := by decide +kernel
theorem dX11_undo_24 : decode cX11_undo 24 = .ok (.getfield 22, 3) := by decide +kernel
theorem dX11_undo_27 : decode cX11_undo 27 = .ok (.getfield 205, 3) := by decide +kernel
theorem dX11_undo_30 : decode cX11_undo 30 = .ok (.ireturn, 1) := by decide +kernel
theorem dX11_undoCount_0 : decode cX11_undoCount 0 = .ok (.aload_n 0, 1) := by decide +kernel
theorem dX11_undoCount_1 : decode cX11_undoCount 1 = .ok (.getfield 22, 3) := by decide +kernel
theorem dX11_undoCount_4 : decode cX11_undoCount 4 = .ok (.getfield 205, 3) := by decide +kernel
theorem dX11_undoCount_7 : decode cX11_undoCount 7 = .ok (.ireturn, 1) := by decide +kernel
theorem dX11_saveSnapshot_0 : decode cX11_saveSnapshot 0 = .ok (.aload_n 0, 1) := by decide +kernel
theorem dX11_saveSnapshot_1 : decode cX11_saveSnapshot 1 = .ok (.getfield 16, 3) := by decide +kernel
theorem dX11_saveSnapshot_4 : decode cX11_saveSnapshot 4 = .ok (.aload_n 0, 1) := by decide +kernel
theorem dX11_saveSnapshot_5 : decode cX11_saveSnapshot 5 = .ok (.getfield 12, 3) := by decide +kernel
theorem dX11_saveSnapshot_8 : decode cX11_saveSnapshot 8 = .ok (.invokevirtual 111, 3) := by decide +kernel
theorem dX11_saveSnapshot_11 : decode cX11_saveSnapshot 11 = .ok (.aload_n 0, 1) := by decide +kernel
theorem dX11_saveSnapshot_12 : decode cX11_saveSnapshot 12 = .ok (.iconst 1, 1) := by decide +kernel
theorem dX11_saveSnapshot_13 : decode cX11_saveSnapshot 13 = .ok (.putfield 211, 3) := by decide +kernel
theorem dX11_saveSnapshot_16 : decode cX11_saveSnapshot 16 = .ok (.aload_n 0, 1) := by decide +kernel
theorem dX11_saveSnapshot_17 : decode cX11_saveSnapshot 17 = .ok (.getfield 12, 3) := by decide +kernel
theorem dX11_saveSnapshot_20 : decode cX11_saveSnapshot 20 = .ok (.getfield 63, 3) := by decide +kernel
theorem dX11_saveSnapshot_23 : decode cX11_saveSnapshot 23 = .ok (.getfield 202, 3) := by decide +kernel
theorem dX11_saveSnapshot_26 : decode cX11_saveSnapshot 26 = .ok (.ireturn, 1) := by decide +kernel
theorem dX11_restoreSnapshot_0 : decode cX11_restoreSnapshot 0 = .ok (.aload_n 0, 1) := by decide +kernel
theorem dX11_restoreSnapshot_1 : decode cX11_restoreSnapshot 1 = .ok (.getfield 211, 3) := by decide +kernel
theorem dX11_restoreSnapshot_4 : decode cX11_restoreSnapshot 4 = .ok (.ifCond .ne 13, 3) := by decide +kernel
theorem dX11_restoreSnapshot_7 : decode cX11_restoreSnapshot 7 = .ok (.new 214, 3) := by decide +kernel
theorem dX11_restoreSnapshot_10 : decode cX11_restoreSnapshot 10 = .ok (.dup, 1) := by decide +kernel
theorem dX11_restoreSnapshot_11 : decode cX11_restoreSnapshot 11 = .ok (.ldc 216, 2) := by decide +kernel
theorem dX11_restoreSnapshot_13 : decode cX11_restoreSnapshot 13 = .ok (.invokespecial 218, 3) := by decide +kernel
theorem dX11_restoreSnapshot_16 : decode cX11_restoreSnapshot 16 = .ok (.athrow, 1) := by decide +kernel
theorem dX11_restoreSnapshot_17 : decode cX11_restoreSnapshot 17 = .ok (.aload_n 0, 1) := by decide +kernel
theorem dX11_restoreSnapshot_18 : decode cX11_restoreSnapshot 18 = .ok (.getfield 12, 3) := by decide +kernel
theorem dX11_restoreSnapshot_21 : decode cX11_restoreSnapshot 21 = .ok (.aload_n 0, 1) := by decide +kernel
theorem dX11_restoreSnapshot_22 : decode cX11_restoreSnapshot 22 = .ok (.getfield 16, 3) := by decide +kernel
theorem dX11_restoreSnapshot_25 : decode cX11_restoreSnapshot 25 = .ok (.invokevirtual 111, 3) := by decide +kernel
theorem dX11_restoreSnapshot_28 : decode cX11_restoreSnapshot 28 = .ok (.aload_n 0, 1) := by decide +kernel
theorem dX11_restoreSnapshot_29 : decode cX11_restoreSnapshot 29 = .ok (.getfield 22, 3) := by decide +kernel
theorem dX11_restoreSnapshot_32 : decode cX11_restoreSnapshot 32 = .ok (.iconst 0, 1) := by decide +kernel
theorem dX11_restoreSnapshot_33 : decode cX11_restoreSnapshot 33 = .ok (.putfield 205, 3) := by decide +kernel
theorem dX11_restoreSnapshot_36 : decode cX11_restoreSnapshot 36 = .ok (.aload_n 0, 1) := by decide +kernel
theorem dX11_restoreSnapshot_37 : decode cX11_restoreSnapshot 37 = .ok (.getfield 12, 3) := by decide +kernel
theorem dX11_restoreSnapshot_40 : decode cX11_restoreSnapshot 40 = .ok (.getfield 63, 3) := by decide +kernel
theorem dX11_restoreSnapshot_43 : decode cX11_restoreSnapshot 43 = .ok (.getfield 202, 3) := by decide +kernel
theorem dX11_restoreSnapshot_46 : decode cX11_restoreSnapshot 46 = .ok (.ireturn, 1) := by decide +kernel
theorem dX11_hour_0 : decode cX11_hour 0 = .ok (.aload_n 0, 1) := by decide +kernel
theorem dX11_hour_1 : decode cX11_hour 1 = .ok (.getfield 12, 3) := by decide +kernel
theorem dX11_hour_4 : decode cX11_hour 4 = .ok (.getfield 63, 3) := by decide +kernel
theorem dX11_hour_7 : decode cX11_hour 7 = .ok (.getfield 202, 3) := by decide +kernel
theorem dX11_hour_10 : decode cX11_hour 10 = .ok (.ireturn, 1) := by decide +kernel
theorem dX11_day_0 : decode cX11_day 0 = .ok (.aload_n 0, 1) := by decide +kernel
theorem dX11_day_1 : decode cX11_day 1 = .ok (.getfield 12, 3) := by decide +kernel
theorem dX11_day_4 : decode cX11_day 4 = .ok (.getfield 63, 3) := by decide +kernel
theorem dX11_day_7 : decode cX11_day 7 = .ok (.invokevirtual 142, 3) := by decide +kernel
theorem dX11_day_10 : decode cX11_day 10 = .ok (.ireturn, 1) := by decide +kernel
theorem dX11_dryness_0 : decode cX11_dryness 0 = .ok (.aload_n 0, 1) := by decide +kernel
theorem dX11_dryness_1 : decode cX11_dryness 1 = .ok (.getfield 12, 3) := by decide +kernel
theorem dX11_dryness_4 : decode cX11_dryness 4 = .ok (.getfield 63, 3) := by decide +kernel
theorem dX11_dryness_7 : decode cX11_dryness 7 = .ok (.aload_n 0, 1) := by decide +kernel
theorem dX11_dryness_8 : decode cX11_dryness 8 = .ok (.getfield 12, 3) := by decide +kernel
theorem dX11_dryness_11 : decode cX11_dryness 11 = .ok (.getfield 63, 3) := by decide +kernel
theorem dX11_dryness_14 : decode cX11_dryness 14 = .ok (.getfield 202, 3) := by decide +kernel
theorem dX11_dryness_17 : decode cX11_dryness 17 = .ok (.invokevirtual 230, 3) := by decide +kernel
theorem dX11_dryness_20 : decode cX11_dryness 20 = .ok (.ireturn, 1) := by decide +kernel
theorem dX11_hoursToMonsoon_0 : decode cX11_hoursToMonsoon 0 = .ok (.aload_n 0, 1) := by decide +kernel
theorem dX11_hoursToMonsoon_1 : decode cX11_hoursToMonsoon 1 = .ok (.getfield 12, 3) := by decide +kernel
theorem dX11_hoursToMonsoon_4 : decode cX11_hoursToMonsoon 4 = .ok (.getfield 63, 3) := by decide +kernel
theorem dX11_hoursToMonsoon_7 : decode cX11_hoursToMonsoon 7 = .ok (.invokevirtual 233, 3) := by decide +kernel
theorem dX11_hoursToMonsoon_10 : decode cX11_hoursToMonsoon 10 = .ok (.ireturn, 1) := by decide +kernel
theorem dX11_troughCount_0 : decode cX11_troughCount 0 = .ok (.aload_n 0, 1) := by decide +kernel
theorem dX11_troughCount_1 : decode cX11_troughCount 1 = .ok (.getfield 12, 3) := by decide +kernel
theorem dX11_troughCount_4 : decode cX11_troughCount 4 = .ok (.getfield 114, 3) := by decide +kernel
theorem dX11_troughCount_7 : decode cX11_troughCount 7 = .ok (.ireturn, 1) := by decide +kernel
theorem dX11_probeCount_0 : decode cX11_probeCount 0 = .ok (.aload_n 0, 1) := by decide +kernel
theorem dX11_probeCount_1 : decode cX11_probeCount 1 = .ok (.getfield 12, 3) := by decide +kernel
theorem dX11_probeCount_4 : decode cX11_probeCount 4 = .ok (.getfield 239, 3) := by decide +kernel
theorem dX11_probeCount_7 : decode cX11_probeCount 7 = .ok (.ireturn, 1) := by decide +kernel
theorem dX11_capacity_0 : decode cX11_capacity 0 = .ok (.aload_n 0, 1) := by decide +kernel
theorem dX11_capacity_1 : decode cX11_capacity 1 = .ok (.iload_n 1, 1) := by decide +kernel
theorem dX11_capacity_2 : decode cX11_capacity 2 = .ok (.invokevirtual 124, 3) := by decide +kernel
theorem dX11_capacity_5 : decode cX11_capacity 5 = .ok (.getfield 127, 3) := by decide +kernel
theorem dX11_capacity_8 : decode cX11_capacity 8 = .ok (.ireturn, 1) := by decide +kernel
theorem dX11_kilograms_0 : decode cX11_kilograms 0 = .ok (.aload_n 0, 1) := by decide +kernel
theorem dX11_kilograms_1 : decode cX11_kilograms 1 = .ok (.iload_n 1, 1) := by decide +kernel
theorem dX11_kilograms_2 : decode cX11_kilograms 2 = .ok (.invokevirtual 124, 3) := by decide +kernel
theorem dX11_kilograms_5 : decode cX11_kilograms 5 = .ok (.getfield 242, 3) := by decide +kernel
theorem dX11_kilograms_8 : decode cX11_kilograms 8 = .ok (.ireturn, 1) := by decide +kernel
theorem dX11_fill_0 : decode cX11_fill 0 = .ok (.aload_n 0, 1) := by decide +kernel
theorem dX11_fill_1 : decode cX11_fill 1 = .ok (.iload_n 1, 1) := by decide +kernel
theorem dX11_fill_2 : decode cX11_fill 2 = .ok (.invokevirtual 124, 3) := by decide +kernel
theorem dX11_fill_5 : decode cX11_fill 5 = .ok (.getfield 133, 3) := by decide +kernel
theorem dX11_fill_8 : decode cX11_fill 8 = .ok (.ireturn, 1) := by decide +kernel
theorem dX11_speed_0 : decode cX11_speed 0 = .ok (.aload_n 0, 1) := by decide +kernel
theorem dX11_speed_1 : decode cX11_speed 1 = .ok (.iload_n 1, 1) := by decide +kernel
theorem dX11_speed_2 : decode cX11_speed 2 = .ok (.invokevirtual 124, 3) := by decide +kernel
theorem dX11_speed_5 : decode cX11_speed 5 = .ok (.getfield 59, 3) := by decide +kernel
theorem dX11_speed_8 : decode cX11_speed 8 = .ok (.ireturn, 1) := by decide +kernel
theorem dX11_isUpwards_0 : decode cX11_isUpwards 0 = .ok (.aload_n 0, 1) := by decide +kernel
theorem dX11_isUpwards_1 : decode cX11_isUpwards 1 = .ok (.iload_n 1, 1) := by decide +kernel
theorem dX11_isUpwards_2 : decode cX11_isUpwards 2 = .ok (.invokevirtual 124, 3) := by decide +kernel
theorem dX11_isUpwards_5 : decode cX11_isUpwards 5 = .ok (.getfield 80, 3) := by decide +kernel
theorem dX11_isUpwards_8 : decode cX11_isUpwards 8 = .ok (.ireturn, 1) := by decide +kernel
theorem dX11_moisture_0 : decode cX11_moisture 0 = .ok (.aload_n 0, 1) := by decide +kernel
theorem dX11_moisture_1 : decode cX11_moisture 1 = .ok (.iload_n 1, 1) := by decide +kernel
theorem dX11_moisture_2 : decode cX11_moisture 2 = .ok (.invokevirtual 124, 3) := by decide +kernel
theorem dX11_moisture_5 : decode cX11_moisture 5 = .ok (.astore_n 3, 1) := by decide +kernel
theorem dX11_moisture_6 : decode cX11_moisture 6 = .ok (.iload_n 2, 1) := by decide +kernel
theorem dX11_moisture_7 : decode cX11_moisture 7 = .ok (.iconst 0, 1) := by decide +kernel
theorem dX11_moisture_8 : decode cX11_moisture 8 = .ok (.iconst 1, 1) := by decide +kernel
theorem dX11_moisture_9 : decode cX11_moisture 9 = .ok (.invokestatic 96, 3) := by decide +kernel
theorem dX11_moisture_12 : decode cX11_moisture 12 = .ok (.aload_n 3, 1) := by decide +kernel
theorem dX11_moisture_13 : decode cX11_moisture 13 = .ok (.invokevirtual 130, 3) := by decide +kernel
theorem dX11_moisture_16 : decode cX11_moisture 16 = .ok (.ifCond .eq 11, 3) := by decide +kernel
theorem dX11_moisture_19 : decode cX11_moisture 19 = .ok (.aload_n 3, 1) := by decide +kernel
theorem dX11_moisture_20 : decode cX11_moisture 20 = .ok (.iload_n 2, 1) := by decide +kernel
theorem dX11_moisture_21 : decode cX11_moisture 21 = .ok (.invokevirtual 245, 3) := by decide +kernel
theorem dX11_moisture_24 : decode cX11_moisture 24 = .ok (.goto 4, 3) := by decide +kernel
theorem dX11_moisture_27 : decode cX11_moisture 27 = .ok (.iconst (-1), 1) := by decide +kernel
theorem dX11_moisture_28 : decode cX11_moisture 28 = .ok (.ireturn, 1) := by decide +kernel
theorem dX11_spread_0 : decode cX11_spread 0 = .ok (.aload_n 0, 1) := by decide +kernel
theorem dX11_spread_1 : decode cX11_spread 1 = .ok (.iload_n 1, 1) := by decide +kernel
theorem dX11_spread_2 : decode cX11_spread 2 = .ok (.invokevirtual 124, 3) := by decide +kernel
theorem dX11_spread_5 : decode cX11_spread 5 = .ok (.astore_n 2, 1) := by decide +kernel
theorem dX11_spread_6 : decode cX11_spread 6 = .ok (.aload_n 2, 1) := by decide +kernel
theorem dX11_spread_7 : decode cX11_spread 7 = .ok (.invokevirtual 130, 3) := by decide +kernel
theorem dX11_spread_10 : decode cX11_spread 10 = .ok (.ifCond .eq 10, 3) := by decide +kernel
theorem dX11_spread_13 : decode cX11_spread 13 = .ok (.aload_n 2, 1) := by decide +kernel
theorem dX11_spread_14 : decode cX11_spread 14 = .ok (.invokevirtual 248, 3) := by decide +kernel
theorem dX11_spread_17 : decode cX11_spread 17 = .ok (.goto 4, 3) := by decide +kernel
theorem dX11_spread_20 : decode cX11_spread 20 = .ok (.iconst (-1), 1) := by decide +kernel
theorem dX11_spread_21 : decode cX11_spread 21 = .ok (.ireturn, 1) := by decide +kernel
theorem dX11_warmth_0 : decode cX11_warmth 0 = .ok (.aload_n 0, 1) := by decide +kernel
theorem dX11_warmth_1 : decode cX11_warmth 1 = .ok (.iload_n 1, 1) := by decide +kernel
theorem dX11_warmth_2 : decode cX11_warmth 2 = .ok (.invokevirtual 124, 3) := by decide +kernel
theorem dX11_warmth_5 : decode cX11_warmth 5 = .ok (.astore_n 2, 1) := by decide +kernel
theorem dX11_warmth_6 : decode cX11_warmth 6 = .ok (.aload_n 2, 1) := by decide +kernel
theorem dX11_warmth_7 : decode cX11_warmth 7 = .ok (.invokevirtual 130, 3) := by decide +kernel
theorem dX11_warmth_10 : decode cX11_warmth 10 = .ok (.ifCond .eq 10, 3) := by decide +kernel
theorem dX11_warmth_13 : decode cX11_warmth 13 = .ok (.aload_n 2, 1) := by decide +kernel
theorem dX11_warmth_14 : decode cX11_warmth 14 = .ok (.getfield 251, 3) := by decide +kernel
theorem dX11_warmth_17 : decode cX11_warmth 17 = .ok (.goto 4, 3) := by decide +kernel
theorem dX11_warmth_20 : decode cX11_warmth 20 = .ok (.iconst (-1), 1) := by decide +kernel
theorem dX11_warmth_21 : decode cX11_warmth 21 = .ok (.ireturn, 1) := by decide +kernel
theorem dX11_damage_0 : decode cX11_damage 0 = .ok (.aload_n 0, 1) := by decide +kernel
theorem dX11_damage_1 : decode cX11_damage 1 = .ok (.iload_n 1, 1) := by decide +kernel
theorem dX11_damage_2 : decode cX11_damage 2 = .ok (.invokevirtual 124, 3) := by decide +kernel
theorem dX11_damage_5 : decode cX11_damage 5 = .ok (.astore_n 2, 1) := by decide +kernel
theorem dX11_damage_6 : decode cX11_damage 6 = .ok (.aload_n 2, 1) := by decide +kernel
theorem dX11_damage_7 : decode cX11_damage 7 = .ok (.invokevirtual 130, 3) := by decide +kernel
theorem dX11_damage_10 : decode cX11_damage 10 = .ok (.ifCond .eq 10, 3) := by decide +kernel
theorem dX11_damage_13 : decode cX11_damage 13 = .ok (.aload_n 2, 1) := by decide +kernel
theorem dX11_damage_14 : decode cX11_damage 14 = .ok (.getfield 254, 3) := by decide +kernel
theorem dX11_damage_17 : decode cX11_damage 17 = .ok (.goto 4, 3) := by decide +kernel
theorem dX11_damage_20 : decode cX11_damage 20 = .ok (.iconst (-1), 1) := by decide +kernel
theorem dX11_damage_21 : decode cX11_damage 21 = .ok (.ireturn, 1) := by decide +kernel
theorem dX11_marks_0 : decode cX11_marks 0 = .ok (.aload_n 0, 1) := by decide +kernel
theorem dX11_marks_1 : decode cX11_marks 1 = .ok (.iload_n 1, 1) := by decide +kernel
theorem dX11_marks_2 : decode cX11_marks 2 = .ok (.invokevirtual 124, 3) := by decide +kernel
theorem dX11_marks_5 : decode cX11_marks 5 = .ok (.astore_n 2, 1) := by decide +kernel
theorem dX11_marks_6 : decode cX11_marks 6 = .ok (.aload_n 2, 1) := by decide +kernel
theorem dX11_marks_7 : decode cX11_marks 7 = .ok (.invokevirtual 130, 3) := by decide +kernel
theorem dX11_marks_10 : decode cX11_marks 10 = .ok (.ifCond .eq 10, 3) := by decide +kernel
theorem dX11_marks_13 : decode cX11_marks 13 = .ok (.aload_n 2, 1) := by decide +kernel
theorem dX11_marks_14 : decode cX11_marks 14 = .ok (.invokevirtual 257, 3) := by decide +kernel
theorem dX11_marks_17 : decode cX11_marks 17 = .ok (.goto 4, 3) := by decide +kernel
theorem dX11_marks_20 : decode cX11_marks 20 = .ok (.iconst (-1), 1) := by decide +kernel
theorem dX11_marks_21 : decode cX11_marks 21 = .ok (.ireturn, 1) := by decide +kernel
theorem dX11_whyNoDischarge_0 : decode cX11_whyNoDischarge 0 = .ok (.aload_n 0, 1) := by decide +kernel
theorem dX11_whyNoDischarge_1 : decode cX11_whyNoDischarge 1 = .ok (.getfield 12, 3) := by decide +kernel
theorem dX11_whyNoDischarge_4 : decode cX11_whyNoDischarge 4 = .ok (.aload_n 0, 1) := by decide +kernel
theorem dX11_whyNoDischarge_5 : decode cX11_whyNoDischarge 5 = .ok (.iload_n 1, 1) := by decide +kernel
theorem dX11_whyNoDischarge_6 : decode cX11_whyNoDischarge 6 = .ok (.invokevirtual 124, 3) := by decide +kernel
theorem dX11_whyNoDischarge_9 : decode cX11_whyNoDischarge 9 = .ok (.invokevirtual 170, 3) := by decide +kernel
theorem dX11_whyNoDischarge_12 : decode cX11_whyNoDischarge 12 = .ok (.ireturn, 1) := by decide +kernel
theorem dX11_readyTroughs_0 : decode cX11_readyTroughs 0 = .ok (.aload_n 0, 1) := by decide +kernel
theorem dX11_readyTroughs_1 : decode cX11_readyTroughs 1 = .ok (.getfield 12, 3) := by decide +kernel
theorem dX11_readyTroughs_4 : decode cX11_readyTroughs 4 = .ok (.invokevirtual 156, 3) := by decide +kernel
theorem dX11_readyTroughs_7 : decode cX11_readyTroughs 7 = .ok (.ireturn, 1) := by decide +kernel
theorem dX11_weight_0 : decode cX11_weight 0 = .ok (.aload_n 0, 1) := by decide +kernel
theorem dX11_weight_1 : decode cX11_weight 1 = .ok (.iload_n 1, 1) := by decide +kernel
theorem dX11_weight_2 : decode cX11_weight 2 = .ok (.invokevirtual 124, 3) := by decide +kernel
theorem dX11_weight_5 : decode cX11_weight 5 = .ok (.getfield 263, 3) := by decide +kernel
theorem dX11_weight_8 : decode cX11_weight 8 = .ok (.ireturn, 1) := by decide +kernel
theorem dX11_reading_0 : decode cX11_reading 0 = .ok (.aload_n 0, 1) := by decide +kernel
theorem dX11_reading_1 : decode cX11_reading 1 = .ok (.getfield 12, 3) := by decide +kernel
theorem dX11_reading_4 : decode cX11_reading 4 = .ok (.aload_n 0, 1) := by decide +kernel
theorem dX11_reading_5 : decode cX11_reading 5 = .ok (.iload_n 1, 1) := by decide +kernel
theorem dX11_reading_6 : decode cX11_reading 6 = .ok (.invokevirtual 183, 3) := by decide +kernel
theorem dX11_reading_9 : decode cX11_reading 9 = .ok (.invokevirtual 266, 3) := by decide +kernel
theorem dX11_reading_12 : decode cX11_reading 12 = .ok (.ireturn, 1) := by decide +kernel
theorem dX11_probeTrough_0 : decode cX11_probeTrough 0 = .ok (.aload_n 0, 1) := by decide +kernel
theorem dX11_probeTrough_1 : decode cX11_probeTrough 1 = .ok (.iload_n 1, 1) := by decide +kernel
theorem dX11_probeTrough_2 : decode cX11_probeTrough 2 = .ok (.invokevirtual 183, 3) := by decide +kernel
theorem dX11_probeTrough_5 : decode cX11_probeTrough 5 = .ok (.getfield 187, 3) := by decide +kernel
theorem dX11_probeTrough_8 : decode cX11_probeTrough 8 = .ok (.ireturn, 1) := by decide +kernel
theorem dX11_probeLayer_0 : decode cX11_probeLayer 0 = .ok (.aload_n 0, 1) := by decide +kernel
theorem dX11_probeLayer_1 : decode cX11_probeLayer 1 = .ok (.iload_n 1, 1) := by decide +kernel
theorem dX11_probeLayer_2 : decode cX11_probeLayer 2 = .ok (.invokevirtual 183, 3) := by decide +kernel
theorem dX11_probeLayer_5 : decode cX11_probeLayer 5 = .ok (.getfield 192, 3) := by decide +kernel
theorem dX11_probeLayer_8 : decode cX11_probeLayer 8 = .ok (.ireturn, 1) := by decide +kernel
theorem dX11_hoursToReady_0 : decode cX11_hoursToReady 0 = .ok (.aload_n 0, 1) := by decide +kernel
theorem dX11_hoursToReady_1 : decode cX11_hoursToReady 1 = .ok (.iload_n 1, 1) := by decide +kernel
theorem dX11_hoursToReady_2 : decode cX11_hoursToReady 2 = .ok (.invokevirtual 124, 3) := by decide +kernel
theorem dX11_hoursToReady_5 : decode cX11_hoursToReady 5 = .ok (.astore_n 2, 1) := by decide +kernel
theorem dX11_hoursToReady_6 : decode cX11_hoursToReady 6 = .ok (.aload_n 2, 1) := by decide +kernel
theorem dX11_hoursToReady_7 : decode cX11_hoursToReady 7 = .ok (.invokevirtual 130, 3) := by decide +kernel
theorem dX11_hoursToReady_10 : decode cX11_hoursToReady 10 = .ok (.ifCond .ne 5, 3) := by decide +kernel
theorem dX11_hoursToReady_13 : decode cX11_hoursToReady 13 = .ok (.iconst (-1), 1) := by decide +kernel
theorem dX11_hoursToReady_14 : decode cX11_hoursToReady 14 = .ok (.ireturn, 1) := by decide +kernel
theorem dX11_hoursToReady_15 : decode cX11_hoursToReady 15 = .ok (.aload_n 0, 1) := by decide +kernel
theorem dX11_hoursToReady_16 : decode cX11_hoursToReady 16 = .ok (.getfield 43, 3) := by decide +kernel
theorem dX11_hoursToReady_19 : decode cX11_hoursToReady 19 = .ok (.aload_n 2, 1) := by decide +kernel
theorem dX11_hoursToReady_20 : decode cX11_hoursToReady 20 = .ok (.invokevirtual 273, 3) := by decide +kernel
theorem dX11_hoursToReady_23 : decode cX11_hoursToReady 23 = .ok (.iconst 0, 1) := by decide +kernel
theorem dX11_hoursToReady_24 : decode cX11_hoursToReady 24 = .ok (.istore_n 3, 1) := by decide +kernel
theorem dX11_hoursToReady_25 : decode cX11_hoursToReady 25 = .ok (.iload_n 3, 1) := by decide +kernel
theorem dX11_hoursToReady_26 : decode cX11_hoursToReady 26 = .ok (.sipush 200, 3) := by decide +kernel
theorem dX11_hoursToReady_29 : decode cX11_hoursToReady 29 = .ok (.if_icmp .gt 55, 3) := by decide +kernel
theorem dX11_hoursToReady_32 : decode cX11_hoursToReady 32 = .ok (.aload_n 0, 1) := by decide +kernel
theorem dX11_hoursToReady_33 : decode cX11_hoursToReady 33 = .ok (.getfield 12, 3) := by decide +kernel
theorem dX11_hoursToReady_36 : decode cX11_hoursToReady 36 = .ok (.aload_n 0, 1) := by decide +kernel
theorem dX11_hoursToReady_37 : decode cX11_hoursToReady 37 = .ok (.getfield 43, 3) := by decide +kernel
theorem dX11_hoursToReady_40 : decode cX11_hoursToReady 40 = .ok (.invokevirtual 279, 3) := by decide +kernel
theorem dX11_hoursToReady_43 : decode cX11_hoursToReady 43 = .ok (.ifCond .eq 5, 3) := by decide +kernel
theorem dX11_hoursToReady_46 : decode cX11_hoursToReady 46 = .ok (.iload_n 3, 1) := by decide +kernel
theorem dX11_hoursToReady_47 : decode cX11_hoursToReady 47 = .ok (.ireturn, 1) := by decide +kernel
theorem dX11_hoursToReady_48 : decode cX11_hoursToReady 48 = .ok (.aload_n 0, 1) := by decide +kernel
theorem dX11_hoursToReady_49 : decode cX11_hoursToReady 49 = .ok (.getfield 43, 3) := by decide +kernel
theorem dX11_hoursToReady_52 : decode cX11_hoursToReady 52 = .ok (.aload_n 0, 1) := by decide +kernel
theorem dX11_hoursToReady_53 : decode cX11_hoursToReady 53 = .ok (.getfield 12, 3) := by decide +kernel
theorem dX11_hoursToReady_56 : decode cX11_hoursToReady 56 = .ok (.getfield 63, 3) := by decide +kernel
theorem dX11_hoursToReady_59 : decode cX11_hoursToReady 59 = .ok (.aload_n 0, 1) := by decide +kernel
theorem dX11_hoursToReady_60 : decode cX11_hoursToReady 60 = .ok (.getfield 12, 3) := by decide +kernel
theorem dX11_hoursToReady_63 : decode cX11_hoursToReady 63 = .ok (.getfield 63, 3) := by decide +kernel
theorem dX11_hoursToReady_66 : decode cX11_hoursToReady 66 = .ok (.getfield 202, 3) := by decide +kernel
theorem dX11_hoursToReady_69 : decode cX11_hoursToReady 69 = .ok (.iload_n 3, 1) := by decide +kernel
theorem dX11_hoursToReady_70 : decode cX11_hoursToReady 70 = .ok (.iadd, 1) := by decide +kernel
theorem dX11_hoursToReady_71 : decode cX11_hoursToReady 71 = .ok (.invokevirtual 230, 3) := by decide +kernel
theorem dX11_hoursToReady_74 : decode cX11_hoursToReady 74 = .ok (.invokevirtual 283, 3) := by decide +kernel
theorem dX11_hoursToReady_77 : decode cX11_hoursToReady 77 = .ok (.pop, 1) := by decide +kernel
theorem dX11_hoursToReady_78 : decode cX11_hoursToReady 78 = .ok (.iinc 3 1, 3) := by decide +kernel
theorem dX11_hoursToReady_81 : decode cX11_hoursToReady 81 = .ok (.goto (-56), 3) := by decide +kernel
theorem dX11_hoursToReady_84 : decode cX11_hoursToReady 84 = .ok (.iconst (-1), 1) := by decide +kernel
theorem dX11_hoursToReady_85 : decode cX11_hoursToReady 85 = .ok (.ireturn, 1) := by decide +kernel
theorem dX11_dischargedKilograms_0 : decode cX11_dischargedKilograms 0 = .ok (.aload_n 0, 1) := by decide +kernel
theorem dX11_dischargedKilograms_1 : decode cX11_dischargedKilograms 1 = .ok (.getfield 12, 3) := by decide +kernel
theorem dX11_dischargedKilograms_4 : decode cX11_dischargedKilograms 4 = .ok (.getfield 290, 3) := by decide +kernel
theorem dX11_dischargedKilograms_7 : decode cX11_dischargedKilograms 7 = .ok (.ireturn, 1) := by decide +kernel
theorem dX11_discardedKilograms_0 : decode cX11_discardedKilograms 0 = .ok (.aload_n 0, 1) := by decide +kernel
theorem dX11_discardedKilograms_1 : decode cX11_discardedKilograms 1 = .ok (.getfield 12, 3) := by decide +kernel
theorem dX11_discardedKilograms_4 : decode cX11_discardedKilograms 4 = .ok (.getfield 293, 3) := by decide +kernel
theorem dX11_discardedKilograms_7 : decode cX11_discardedKilograms 7 = .ok (.ireturn, 1) := by decide +kernel
theorem dX11_totalWorth_0 : decode cX11_totalWorth 0 = .ok (.aload_n 0, 1) := by decide +kernel
theorem dX11_totalWorth_1 : decode cX11_totalWorth 1 = .ok (.getfield 12, 3) := by decide +kernel
theorem dX11_totalWorth_4 : decode cX11_totalWorth 4 = .ok (.getfield 296, 3) := by decide +kernel
theorem dX11_totalWorth_7 : decode cX11_totalWorth 7 = .ok (.ireturn, 1) := by decide +kernel
theorem dX11_lostWater_0 : decode cX11_lostWater 0 = .ok (.aload_n 0, 1) := by decide +kernel
theorem dX11_lostWater_1 : decode cX11_lostWater 1 = .ok (.getfield 12, 3) := by decide +kernel
theorem dX11_lostWater_4 : decode cX11_lostWater 4 = .ok (.getfield 299, 3) := by decide +kernel
theorem dX11_lostWater_7 : decode cX11_lostWater 7 = .ok (.ireturn, 1) := by decide +kernel
theorem dX11_violations_0 : decode cX11_violations 0 = .ok (.aload_n 0, 1) := by decide +kernel
theorem dX11_violations_1 : decode cX11_violations 1 = .ok (.getfield 12, 3) := by decide +kernel
theorem dX11_violations_4 : decode cX11_violations 4 = .ok (.invokevirtual 308, 3) := by decide +kernel
theorem dX11_violations_7 : decode cX11_violations 7 = .ok (.ireturn, 1) := by decide +kernel
theorem dX11_existingTrough_0 : decode cX11_existingTrough 0 = .ok (.aload_n 0, 1) := by decide +kernel
theorem dX11_existingTrough_1 : decode cX11_existingTrough 1 = .ok (.getfield 12, 3) := by decide +kernel
theorem dX11_existingTrough_4 : decode cX11_existingTrough 4 = .ok (.iload_n 1, 1) := by decide +kernel
theorem dX11_existingTrough_5 : decode cX11_existingTrough 5 = .ok (.invokevirtual 318, 3) := by decide +kernel
theorem dX11_existingTrough_8 : decode cX11_existingTrough 8 = .ok (.ifCond .ne 14, 3) := by decide +kernel
theorem dX11_existingTrough_11 : decode cX11_existingTrough 11 = .ok (.new 321, 3) := by decide +kernel
theorem dX11_existingTrough_14 : decode cX11_existingTrough 14 = .ok (.dup, 1) := by decide +kernel
theorem dX11_existingTrough_15 : decode cX11_existingTrough 15 = .ok (.ldc_w 323, 3) := by decide +kernel
theorem dX11_existingTrough_18 : decode cX11_existingTrough 18 = .ok (.invokespecial 325, 3) := by decide +kernel
theorem dX11_existingTrough_21 : decode cX11_existingTrough 21 = .ok (.athrow, 1) := by decide +kernel
theorem dX11_existingTrough_22 : decode cX11_existingTrough 22 = .ok (.aload_n 0, 1) := by decide +kernel
theorem dX11_existingTrough_23 : decode cX11_existingTrough 23 = .ok (.getfield 12, 3) := by decide +kernel
theorem dX11_existingTrough_26 : decode cX11_existingTrough 26 = .ok (.iload_n 1, 1) := by decide +kernel
theorem dX11_existingTrough_27 : decode cX11_existingTrough 27 = .ok (.invokevirtual 51, 3) := by decide +kernel
theorem dX11_existingTrough_30 : decode cX11_existingTrough 30 = .ok (.areturn, 1) := by decide +kernel
theorem dX11_existingProbe_0 : decode cX11_existingProbe 0 = .ok (.aload_n 0, 1) := by decide +kernel
theorem dX11_existingProbe_1 : decode cX11_existingProbe 1 = .ok (.getfield 12, 3) := by decide +kernel
theorem dX11_existingProbe_4 : decode cX11_existingProbe 4 = .ok (.iload_n 1, 1) := by decide +kernel
theorem dX11_existingProbe_5 : decode cX11_existingProbe 5 = .ok (.invokevirtual 326, 3) := by decide +kernel
theorem dX11_existingProbe_8 : decode cX11_existingProbe 8 = .ok (.ifCond .ne 14, 3) := by decide +kernel
theorem dX11_existingProbe_11 : decode cX11_existingProbe 11 = .ok (.new 321, 3) := by decide +kernel
theorem dX11_existingProbe_14 : decode cX11_existingProbe 14 = .ok (.dup, 1) := by decide +kernel
theorem dX11_existingProbe_15 : decode cX11_existingProbe 15 = .ok (.ldc_w 329, 3) := by decide +kernel
theorem dX11_existingProbe_18 : decode cX11_existingProbe 18 = .ok (.invokespecial 325, 3) := by decide +kernel
theorem dX11_existingProbe_21 : decode cX11_existingProbe 21 = .ok (.athrow, 1) := by decide +kernel
theorem dX11_existingProbe_22 : decode cX11_existingProbe 22 = .ok (.aload_n 0, 1) := by decide +kernel
theorem dX11_existingProbe_23 : decode cX11_existingProbe 23 = .ok (.getfield 12, 3) := by decide +kernel
theorem dX11_existingProbe_26 : decode cX11_existingProbe 26 = .ok (.iload_n 1, 1) := by decide +kernel
theorem dX11_existingProbe_27 : decode cX11_existingProbe 27 = .ok (.invokevirtual 331, 3) := by decide +kernel
theorem dX11_existingProbe_30 : decode cX11_existingProbe 30 = .ok (.areturn, 1) := by decide +kernel
theorem dX11_requireRange_0 : decode cX11_requireRange 0 = .ok (.iload_n 0, 1) := by decide +kernel
theorem dX11_requireRange_1 : decode cX11_requireRange 1 = .ok (.iload_n 1, 1) := by decide +kernel
theorem dX11_requireRange_2 : decode cX11_requireRange 2 = .ok (.if_icmp .lt 8, 3) := by decide +kernel
theorem dX11_requireRange_5 : decode cX11_requireRange 5 = .ok (.iload_n 0, 1) := by decide +kernel
theorem dX11_requireRange_6 : decode cX11_requireRange 6 = .ok (.iload_n 2, 1) := by decide +kernel
theorem dX11_requireRange_7 : decode cX11_requireRange 7 = .ok (.if_icmp .le 14, 3) := by decide +kernel
theorem dX11_requireRange_10 : decode cX11_requireRange 10 = .ok (.new 334, 3) := by decide +kernel
theorem dX11_requireRange_13 : decode cX11_requireRange 13 = .ok (.dup, 1) := by decide +kernel
theorem dX11_requireRange_14 : decode cX11_requireRange 14 = .ok (.ldc_w 336, 3) := by decide +kernel
theorem dX11_requireRange_17 : decode cX11_requireRange 17 = .ok (.invokespecial 338, 3) := by decide +kernel
theorem dX11_requireRange_20 : decode cX11_requireRange 20 = .ok (.athrow, 1) := by decide +kernel
theorem dX11_requireRange_21 : decode cX11_requireRange 21 = .ok (.return_, 1) := by decide +kernel
theorem dX11_refuseIf_0 : decode cX11_refuseIf 0 = .ok (.iload_n 0, 1) := by decide +kernel
theorem dX11_refuseIf_1 : decode cX11_refuseIf 1 = .ok (.ifCond .eq 14, 3) := by decide +kernel
theorem dX11_refuseIf_4 : decode cX11_refuseIf 4 = .ok (.new 339, 3) := by decide +kernel
theorem dX11_refuseIf_7 : decode cX11_refuseIf 7 = .ok (.dup, 1) := by decide +kernel
theorem dX11_refuseIf_8 : decode cX11_refuseIf 8 = .ok (.ldc_w 341, 3) := by decide +kernel
theorem dX11_refuseIf_11 : decode cX11_refuseIf 11 = .ok (.invokespecial 343, 3) := by decide +kernel
theorem dX11_refuseIf_14 : decode cX11_refuseIf 14 = .ok (.athrow, 1) := by decide +kernel
theorem dX11_refuseIf_15 : decode cX11_refuseIf 15 = .ok (.return_, 1) := by decide +kernel
theorem dX11_notBelowLowest_0 : decode cX11_notBelowLowest 0 = .ok (.iload_n 0, 1) := by decide +kernel
theorem dX11_notBelowLowest_1 : decode cX11_notBelowLowest 1 = .ok (.sipush 300, 3) := by decide +kernel
theorem dX11_notBelowLowest_4 : decode cX11_notBelowLowest 4 = .ok (.if_icmp .ge 9, 3) := by decide +kernel
theorem dX11_notBelowLowest_7 : decode cX11_notBelowLowest 7 = .ok (.sipush 300, 3) := by decide +kernel
theorem dX11_notBelowLowest_10 : decode cX11_notBelowLowest 10 = .ok (.goto 4, 3) := by decide +kernel
theorem dX11_notBelowLowest_13 : decode cX11_notBelowLowest 13 = .ok (.iload_n 0, 1) := by decide +kernel
theorem dX11_notBelowLowest_14 : decode cX11_notBelowLowest 14 = .ok (.ireturn, 1) := by decide +kernel
