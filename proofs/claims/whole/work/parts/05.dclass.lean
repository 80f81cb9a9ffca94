theorem dX1_init_0 : decode cX1_init 0 = .ok (.aload_n 0, 1) := by decide +kernel
theorem dX1_init_1 : decode cX1_init 1 = .ok (.invokespecial 3, 3) := by decide +kernel
theorem dX1_init_4 : decode cX1_init 4 = .ok (.aload_n 0, 1) := by decide +kernel
theorem dX1_init_5 : decode cX1_init 5 = .ok (.iconst 3, 1) := by decide +kernel
theorem dX1_init_6 : decode cX1_init 6 = .ok (.newarray .int, 2) := by decide +kernel
theorem dX1_init_8 : decode cX1_init 8 = .ok (.putfield 9, 3) := by decide +kernel
theorem dX1_init_11 : decode cX1_init 11 = .ok (.return_, 1) := by decide +kernel
theorem dX1_clear_0 : decode cX1_clear 0 = .ok (.aload_n 0, 1) := by decide +kernel
theorem dX1_clear_1 : decode cX1_clear 1 = .ok (.iconst 0, 1) := by decide +kernel
theorem dX1_clear_2 : decode cX1_clear 2 = .ok (.putfield 15, 3) := by decide +kernel
theorem dX1_clear_5 : decode cX1_clear 5 = .ok (.aload_n 0, 1) := by decide +kernel
theorem dX1_clear_6 : decode cX1_clear 6 = .ok (.bipush 60, 2) := by decide +kernel
theorem dX1_clear_8 : decode cX1_clear 8 = .ok (.putfield 19, 3) := by decide +kernel
theorem dX1_clear_11 : decode cX1_clear 11 = .ok (.aload_n 0, 1) := by decide +kernel
theorem dX1_clear_12 : decode cX1_clear 12 = .ok (.iconst 0, 1) := by decide +kernel
theorem dX1_clear_13 : decode cX1_clear 13 = .ok (.putfield 22, 3) := by decide +kernel
theorem dX1_clear_16 : decode cX1_clear 16 = .ok (.aload_n 0, 1) := by decide +kernel
theorem dX1_clear_17 : decode cX1_clear 17 = .ok (.iconst 0, 1) := by decide +kernel
theorem dX1_clear_18 : decode cX1_clear 18 = .ok (.putfield 25, 3) := by decide +kernel
theorem dX1_clear_21 : decode cX1_clear 21 = .ok (.return_, 1) := by decide +kernel
theorem dX1_become_0 : decode cX1_become 0 = .ok (.aload_n 0, 1) := by decide +kernel
theorem dX1_become_1 : decode cX1_become 1 = .ok (.aload_n 1, 1) := by decide +kernel
theorem dX1_become_2 : decode cX1_become 2 = .ok (.getfield 15, 3) := by decide +kernel
theorem dX1_become_5 : decode cX1_become 5 = .ok (.putfield 15, 3) := by decide +kernel
theorem dX1_become_8 : decode cX1_become 8 = .ok (.aload_n 0, 1) := by decide +kernel
theorem dX1_become_9 : decode cX1_become 9 = .ok (.aload_n 1, 1) := by decide +kernel
theorem dX1_become_10 : decode cX1_become 10 = .ok (.getfield 19, 3) := by decide +kernel
theorem dX1_become_13 : decode cX1_become 13 = .ok (.putfield 19, 3) := by decide +kernel
theorem dX1_become_16 : decode cX1_become 16 = .ok (.aload_n 0, 1) := by decide +kernel
theorem dX1_become_17 : decode cX1_become 17 = .ok (.aload_n 1, 1) := by decide +kernel
theorem dX1_become_18 : decode cX1_become 18 = .ok (.getfield 22, 3) := by decide +kernel
theorem dX1_become_21 : decode cX1_become 21 = .ok (.putfield 22, 3) := by decide +kernel
theorem dX1_become_24 : decode cX1_become 24 = .ok (.aload_n 0, 1) := by decide +kernel
theorem dX1_become_25 : decode cX1_become 25 = .ok (.aload_n 1, 1) := by decide +kernel
theorem dX1_become_26 : decode cX1_become 26 = .ok (.getfield 25, 3) := by decide +kernel
theorem dX1_become_29 : decode cX1_become 29 = .ok (.putfield 25, 3) := by decide +kernel
theorem dX1_become_32 : decode cX1_become 32 = .ok (.iconst 0, 1) := by decide +kernel
theorem dX1_become_33 : decode cX1_become 33 = .ok (.istore_n 2, 1) := by decide +kernel
theorem dX1_become_34 : decode cX1_become 34 = .ok (.iload_n 2, 1) := by decide +kernel
theorem dX1_become_35 : decode cX1_become 35 = .ok (.iconst 3, 1) := by decide +kernel
theorem dX1_become_36 : decode cX1_become 36 = .ok (.if_icmp .ge 21, 3) := by decide +kernel
theorem dX1_become_39 : decode cX1_become 39 = .ok (.aload_n 0, 1) := by decide +kernel
theorem dX1_become_40 : decode cX1_become 40 = .ok (.getfield 9, 3) := by decide +kernel
theorem dX1_become_43 : decode cX1_become 43 = .ok (.iload_n 2, 1) := by decide +kernel
theorem dX1_become_44 : decode cX1_become 44 = .ok (.aload_n 1, 1) := by decide +kernel
theorem dX1_become_45 : decode cX1_become 45 = .ok (.getfield 9, 3) := by decide +kernel
theorem dX1_become_48 : decode cX1_become 48 = .ok (.iload_n 2, 1) := by decide +kernel
theorem dX1_become_49 : decode cX1_become 49 = .ok (.iaload, 1) := by decide +kernel
theorem dX1_become_50 : decode cX1_become 50 = .ok (.iastore, 1) := by decide +kernel
theorem dX1_become_51 : decode cX1_become 51 = .ok (.iinc 2 1, 3) := by decide +kernel
theorem dX1_become_54 : decode cX1_become 54 = .ok (.goto (-20), 3) := by decide +kernel
theorem dX1_become_57 : decode cX1_become 57 = .ok (.return_, 1) := by decide +kernel
theorem dX1_presentDay_0 : decode cX1_presentDay 0 = .ok (.aload_n 0, 1) := by decide +kernel
theorem dX1_presentDay_1 : decode cX1_presentDay 1 = .ok (.getfield 15, 3) := by decide +kernel
theorem dX1_presentDay_4 : decode cX1_presentDay 4 = .ok (.bipush 24, 2) := by decide +kernel
theorem dX1_presentDay_6 : decode cX1_presentDay 6 = .ok (.idiv, 1) := by decide +kernel
theorem dX1_presentDay_7 : decode cX1_presentDay 7 = .ok (.ireturn, 1) := by decide +kernel
theorem dX1_hasHoursLeft_0 : decode cX1_hasHoursLeft 0 = .ok (.iload_n 1, 1) := by decide +kernel
theorem dX1_hasHoursLeft_1 : decode cX1_hasHoursLeft 1 = .ok (.sipush 2000, 3) := by decide +kernel
theorem dX1_hasHoursLeft_4 : decode cX1_hasHoursLeft 4 = .ok (.aload_n 0, 1) := by decide +kernel
theorem dX1_hasHoursLeft_5 : decode cX1_hasHoursLeft 5 = .ok (.getfield 15, 3) := by decide +kernel
theorem dX1_hasHoursLeft_8 : decode cX1_hasHoursLeft 8 = .ok (.isub, 1) := by decide +kernel
theorem dX1_hasHoursLeft_9 : decode cX1_hasHoursLeft 9 = .ok (.if_icmp .gt 7, 3) := by decide +kernel
theorem dX1_hasHoursLeft_12 : decode cX1_hasHoursLeft 12 = .ok (.iconst 1, 1) := by decide +kernel
theorem dX1_hasHoursLeft_13 : decode cX1_hasHoursLeft 13 = .ok (.goto 4, 3) := by decide +kernel
theorem dX1_hasHoursLeft_16 : decode cX1_hasHoursLeft 16 = .ok (.iconst 0, 1) := by decide +kernel
theorem dX1_hasHoursLeft_17 : decode cX1_hasHoursLeft 17 = .ok (.ireturn, 1) := by decide +kernel
theorem dX1_hasRoomForMonsoon_0 : decode cX1_hasRoomForMonsoon 0 = .ok (.aload_n 0, 1) := by decide +kernel
theorem dX1_hasRoomForMonsoon_1 : decode cX1_hasRoomForMonsoon 1 = .ok (.getfield 25, 3) := by decide +kernel
theorem dX1_hasRoomForMonsoon_4 : decode cX1_hasRoomForMonsoon 4 = .ok (.iconst 3, 1) := by decide +kernel
theorem dX1_hasRoomForMonsoon_5 : decode cX1_hasRoomForMonsoon 5 = .ok (.if_icmp .ge 7, 3) := by decide +kernel
theorem dX1_hasRoomForMonsoon_8 : decode cX1_hasRoomForMonsoon 8 = .ok (.iconst 1, 1) := by decide +kernel
theorem dX1_hasRoomForMonsoon_9 : decode cX1_hasRoomForMonsoon 9 = .ok (.goto 4, 3) := by decide +kernel
theorem dX1_hasRoomForMonsoon_12 : decode cX1_hasRoomForMonsoon 12 = .ok (.iconst 0, 1) := by decide +kernel
theorem dX1_hasRoomForMonsoon_13 : decode cX1_hasRoomForMonsoon 13 = .ok (.ireturn, 1) := by decide +kernel
theorem dX1_addMonsoon_0 : decode cX1_addMonsoon 0 = .ok (.aload_n 0, 1) := by decide +kernel
theorem dX1_addMonsoon_1 : decode cX1_addMonsoon 1 = .ok (.getfield 25, 3) := by decide +kernel
theorem dX1_addMonsoon_4 : decode cX1_addMonsoon 4 = .ok (.ifCond .lt 31, 3) := by decide +kernel
theorem dX1_addMonsoon_7 : decode cX1_addMonsoon 7 = .ok (.aload_n 0, 1) := by decide +kernel
theorem dX1_addMonsoon_8 : decode cX1_addMonsoon 8 = .ok (.getfield 25, 3) := by decide +kernel
theorem dX1_addMonsoon_11 : decode cX1_addMonsoon 11 = .ok (.iconst 3, 1) := by decide +kernel
theorem dX1_addMonsoon_12 : decode cX1_addMonsoon 12 = .ok (.if_icmp .ge 23, 3) := by decide +kernel
theorem dX1_addMonsoon_15 : decode cX1_addMonsoon 15 = .ok (.aload_n 0, 1) := by decide +kernel
theorem dX1_addMonsoon_16 : decode cX1_addMonsoon 16 = .ok (.getfield 9, 3) := by decide +kernel
theorem dX1_addMonsoon_19 : decode cX1_addMonsoon 19 = .ok (.aload_n 0, 1) := by decide +kernel
theorem dX1_addMonsoon_20 : decode cX1_addMonsoon 20 = .ok (.getfield 25, 3) := by decide +kernel
theorem dX1_addMonsoon_23 : decode cX1_addMonsoon 23 = .ok (.iload_n 1, 1) := by decide +kernel
theorem dX1_addMonsoon_24 : decode cX1_addMonsoon 24 = .ok (.iastore, 1) := by decide +kernel
theorem dX1_addMonsoon_25 : decode cX1_addMonsoon 25 = .ok (.aload_n 0, 1) := by decide +kernel
theorem dX1_addMonsoon_26 : decode cX1_addMonsoon 26 = .ok (.dup, 1) := by decide +kernel
theorem dX1_addMonsoon_27 : decode cX1_addMonsoon 27 = .ok (.getfield 25, 3) := by decide +kernel
theorem dX1_addMonsoon_30 : decode cX1_addMonsoon 30 = .ok (.iconst 1, 1) := by decide +kernel
theorem dX1_addMonsoon_31 : decode cX1_addMonsoon 31 = .ok (.iadd, 1) := by decide +kernel
theorem dX1_addMonsoon_32 : decode cX1_addMonsoon 32 = .ok (.putfield 25, 3) := by decide +kernel
theorem dX1_addMonsoon_35 : decode cX1_addMonsoon 35 = .ok (.return_, 1) := by decide +kernel
theorem dX1_hasMonsoonAt_0 : decode cX1_hasMonsoonAt 0 = .ok (.iconst 0, 1) := by decide +kernel
theorem dX1_hasMonsoonAt_1 : decode cX1_hasMonsoonAt 1 = .ok (.istore_n 2, 1) := by decide +kernel
theorem dX1_hasMonsoonAt_2 : decode cX1_hasMonsoonAt 2 = .ok (.iload_n 2, 1) := by decide +kernel
theorem dX1_hasMonsoonAt_3 : decode cX1_hasMonsoonAt 3 = .ok (.aload_n 0, 1) := by decide +kernel
theorem dX1_hasMonsoonAt_4 : decode cX1_hasMonsoonAt 4 = .ok (.getfield 25, 3) := by decide +kernel
theorem dX1_hasMonsoonAt_7 : decode cX1_hasMonsoonAt 7 = .ok (.if_icmp .ge 39, 3) := by decide +kernel
theorem dX1_hasMonsoonAt_10 : decode cX1_hasMonsoonAt 10 = .ok (.iload_n 2, 1) := by decide +kernel
theorem dX1_hasMonsoonAt_11 : decode cX1_hasMonsoonAt 11 = .ok (.iconst 3, 1) := by decide +kernel
theorem dX1_hasMonsoonAt_12 : decode cX1_hasMonsoonAt 12 = .ok (.if_icmp .ge 34, 3) := by decide +kernel
theorem dX1_hasMonsoonAt_15 : decode cX1_hasMonsoonAt 15 = .ok (.iload_n 1, 1) := by decide +kernel
theorem dX1_hasMonsoonAt_16 : decode cX1_hasMonsoonAt 16 = .ok (.aload_n 0, 1) := by decide +kernel
theorem dX1_hasMonsoonAt_17 : decode cX1_hasMonsoonAt 17 = .ok (.getfield 9, 3) := by decide +kernel
theorem dX1_hasMonsoonAt_20 : decode cX1_hasMonsoonAt 20 = .ok (.iload_n 2, 1) := by decide +kernel
theorem dX1_hasMonsoonAt_21 : decode cX1_hasMonsoonAt 21 = .ok (.iaload, 1) := by decide +kernel
theorem dX1_hasMonsoonAt_22 : decode cX1_hasMonsoonAt 22 = .ok (.bipush 24, 2) := by decide +kernel
theorem dX1_hasMonsoonAt_24 : decode cX1_hasMonsoonAt 24 = .ok (.imul, 1) := by decide +kernel
theorem dX1_hasMonsoonAt_25 : decode cX1_hasMonsoonAt 25 = .ok (.isub, 1) := by decide +kernel
theorem dX1_hasMonsoonAt_26 : decode cX1_hasMonsoonAt 26 = .ok (.istore_n 3, 1) := by decide +kernel
theorem dX1_hasMonsoonAt_27 : decode cX1_hasMonsoonAt 27 = .ok (.iload_n 3, 1) := by decide +kernel
theorem dX1_hasMonsoonAt_28 : decode cX1_hasMonsoonAt 28 = .ok (.ifCond .lt 12, 3) := by decide +kernel
theorem dX1_hasMonsoonAt_31 : decode cX1_hasMonsoonAt 31 = .ok (.iload_n 3, 1) := by decide +kernel
theorem dX1_hasMonsoonAt_32 : decode cX1_hasMonsoonAt 32 = .ok (.sipush 168, 3) := by decide +kernel
theorem dX1_hasMonsoonAt_35 : decode cX1_hasMonsoonAt 35 = .ok (.if_icmp .ge 5, 3) := by decide +kernel
theorem dX1_hasMonsoonAt_38 : decode cX1_hasMonsoonAt 38 = .ok (.iconst 1, 1) := by decide +kernel
theorem dX1_hasMonsoonAt_39 : decode cX1_hasMonsoonAt 39 = .ok (.ireturn, 1) := by decide +kernel
theorem dX1_hasMonsoonAt_40 : decode cX1_hasMonsoonAt 40 = .ok (.iinc 2 1, 3) := by decide +kernel
theorem dX1_hasMonsoonAt_43 : decode cX1_hasMonsoonAt 43 = .ok (.goto (-41), 3) := by decide +kernel
theorem dX1_hasMonsoonAt_46 : decode cX1_hasMonsoonAt 46 = .ok (.iconst 0, 1) := by decide +kernel
theorem dX1_hasMonsoonAt_47 : decode cX1_hasMonsoonAt 47 = .ok (.ireturn, 1) := by decide +kernel
theorem dX1_hoursToNextMonsoon_0 : decode cX1_hoursToNextMonsoon 0 = .ok (.iconst (-1), 1) := by decide +kernel
theorem dX1_hoursToNextMonsoon_1 : decode cX1_hoursToNextMonsoon 1 = .ok (.istore_n 1, 1) := by decide +kernel
theorem dX1_hoursToNextMonsoon_2 : decode cX1_hoursToNextMonsoon 2 = .ok (.iconst 0, 1) := by decide +kernel
theorem dX1_hoursToNextMonsoon_3 : decode cX1_hoursToNextMonsoon 3 = .ok (.istore_n 2, 1) := by decide +kernel
theorem dX1_hoursToNextMonsoon_4 : decode cX1_hoursToNextMonsoon 4 = .ok (.iload_n 2, 1) := by decide +kernel
theorem dX1_hoursToNextMonsoon_5 : decode cX1_hoursToNextMonsoon 5 = .ok (.aload_n 0, 1) := by decide +kernel
theorem dX1_hoursToNextMonsoon_6 : decode cX1_hoursToNextMonsoon 6 = .ok (.getfield 25, 3) := by decide +kernel
theorem dX1_hoursToNextMonsoon_9 : decode cX1_hoursToNextMonsoon 9 = .ok (.if_icmp .ge 45, 3) := by decide +kernel
theorem dX1_hoursToNextMonsoon_12 : decode cX1_hoursToNextMonsoon 12 = .ok (.iload_n 2, 1) := by decide +kernel
theorem dX1_hoursToNextMonsoon_13 : decode cX1_hoursToNextMonsoon 13 = .ok (.iconst 3, 1) := by decide +kernel
theorem dX1_hoursToNextMonsoon_14 : decode cX1_hoursToNextMonsoon 14 = .ok (.if_icmp .ge 40, 3) := by decide +kernel
theorem dX1_hoursToNextMonsoon_17 : decode cX1_hoursToNextMonsoon 17 = .ok (.aload_n 0, 1) := by decide +kernel
theorem dX1_hoursToNextMonsoon_18 : decode cX1_hoursToNextMonsoon 18 = .ok (.getfield 9, 3) := by decide +kernel
theorem dX1_hoursToNextMonsoon_21 : decode cX1_hoursToNextMonsoon 21 = .ok (.iload_n 2, 1) := by decide +kernel
theorem dX1_hoursToNextMonsoon_22 : decode cX1_hoursToNextMonsoon 22 = .ok (.iaload, 1) := by decide +kernel
theorem dX1_hoursToNextMonsoon_23 : decode cX1_hoursToNextMonsoon 23 = .ok (.bipush 24, 2) := by decide +kernel
theorem dX1_hoursToNextMonsoon_25 : decode cX1_hoursToNextMonsoon 25 = .ok (.imul, 1) := by decide +kernel
theorem dX1_hoursToNextMonsoon_26 : decode cX1_hoursToNextMonsoon 26 = .ok (.aload_n 0, 1) := by decide +kernel
theorem dX1_hoursToNextMonsoon_27 : decode cX1_hoursToNextMonsoon 27 = .ok (.getfield 15, 3) := by decide +kernel
theorem dX1_hoursToNextMonsoon_30 : decode cX1_hoursToNextMonsoon 30 = .ok (.isub, 1) := by decide +kernel
theorem dX1_hoursToNextMonsoon_31 : decode cX1_hoursToNextMonsoon 31 = .ok (.istore_n 3, 1) := by decide +kernel
theorem dX1_hoursToNextMonsoon_32 : decode cX1_hoursToNextMonsoon 32 = .ok (.iload_n 3, 1) := by decide +kernel
theorem dX1_hoursToNextMonsoon_33 : decode cX1_hoursToNextMonsoon 33 = .ok (.ifCond .le 15, 3) := by decide +kernel
theorem dX1_hoursToNextMonsoon_36 : decode cX1_hoursToNextMonsoon 36 = .ok (.iload_n 1, 1) := by decide +kernel
theorem dX1_hoursToNextMonsoon_37 : decode cX1_hoursToNextMonsoon 37 = .ok (.iconst (-1), 1) := by decide +kernel
theorem dX1_hoursToNextMonsoon_38 : decode cX1_hoursToNextMonsoon 38 = .ok (.if_icmp .eq 8, 3) := by decide +kernel
theorem dX1_hoursToNextMonsoon_41 : decode cX1_hoursToNextMonsoon 41 = .ok (.iload_n 3, 1) := by decide +kernel
theorem dX1_hoursToNextMonsoon_42 : decode cX1_hoursToNextMonsoon 42 = .ok (.iload_n 1, 1) := by decide +kernel
theorem dX1_hoursToNextMonsoon_43 : decode cX1_hoursToNextMonsoon 43 = .ok (.if_icmp .ge 5, 3) := by decide +kernel
theorem dX1_hoursToNextMonsoon_46 : decode cX1_hoursToNextMonsoon 46 = .ok (.iload_n 3, 1) := by decide +kernel
theorem dX1_hoursToNextMonsoon_47 : decode cX1_hoursToNextMonsoon 47 = .ok (.istore_n 1, 1) := by decide +kernel
theorem dX1_hoursToNextMonsoon_48 : decode cX1_hoursToNextMonsoon 48 = .ok (.iinc 2 1, 3) := by decide +kernel
theorem dX1_hoursToNextMonsoon_51 : decode cX1_hoursToNextMonsoon 51 = .ok (.goto (-47), 3) := by decide +kernel
theorem dX1_hoursToNextMonsoon_54 : decode cX1_hoursToNextMonsoon 54 = .ok (.iload_n 1, 1) := by decide +kernel
theorem dX1_hoursToNextMonsoon_55 : decode cX1_hoursToNextMonsoon 55 = .ok (.ireturn, 1) := by decide +kernel
theorem dX1_humidityOf_0 : decode cX1_humidityOf 0 = .ok (.aload_n 0, 1) := by decide +kernel
theorem dX1_humidityOf_1 : decode cX1_humidityOf 1 = .ok (.iload_n 1, 1) := by decide +kernel
theorem dX1_humidityOf_2 : decode cX1_humidityOf 2 = .ok (.invokevirtual 28, 3) := by decide +kernel
theorem dX1_humidityOf_5 : decode cX1_humidityOf 5 = .ok (.ifCond .eq 8, 3) := by decide +kernel
theorem dX1_humidityOf_8 : decode cX1_humidityOf 8 = .ok (.bipush 95, 2) := by decide +kernel
theorem dX1_humidityOf_10 : decode cX1_humidityOf 10 = .ok (.goto 7, 3) := by decide +kernel
theorem dX1_humidityOf_13 : decode cX1_humidityOf 13 = .ok (.aload_n 0, 1) := by decide +kernel
theorem dX1_humidityOf_14 : decode cX1_humidityOf 14 = .ok (.getfield 19, 3) := by decide +kernel
theorem dX1_humidityOf_17 : decode cX1_humidityOf 17 = .ok (.ireturn, 1) := by decide +kernel
theorem dX1_drynessOf_0 : decode cX1_drynessOf 0 = .ok (.bipush 100, 2) := by decide +kernel
theorem dX1_drynessOf_2 : decode cX1_drynessOf 2 = .ok (.aload_n 0, 1) := by decide +kernel
theorem dX1_drynessOf_3 : decode cX1_drynessOf 3 = .ok (.iload_n 1, 1) := by decide +kernel
theorem dX1_drynessOf_4 : decode cX1_drynessOf 4 = .ok (.invokevirtual 32, 3) := by decide +kernel
theorem dX1_drynessOf_7 : decode cX1_drynessOf 7 = .ok (.isub, 1) := by decide +kernel
theorem dX1_drynessOf_8 : decode cX1_drynessOf 8 = .ok (.iconst 5, 1) := by decide +kernel
theorem dX1_drynessOf_9 : decode cX1_drynessOf 9 = .ok (.aload_n 0, 1) := by decide +kernel
theorem dX1_drynessOf_10 : decode cX1_drynessOf 10 = .ok (.getfield 22, 3) := by decide +kernel
theorem dX1_drynessOf_13 : decode cX1_drynessOf 13 = .ok (.imul, 1) := by decide +kernel
theorem dX1_drynessOf_14 : decode cX1_drynessOf 14 = .ok (.iadd, 1) := by decide +kernel
theorem dX1_drynessOf_15 : decode cX1_drynessOf 15 = .ok (.ireturn, 1) := by decide +kernel
theorem dX3_init_0 : decode cX3_init 0 = .ok (.aload_n 0, 1) := by decide +kernel
theorem dX3_init_1 : decode cX3_init 1 = .ok (.invokespecial 3, 3) := by decide +kernel
theorem dX3_init_4 : decode cX3_init 4 = .ok (.aload_n 0, 1) := by decide +kernel
theorem dX3_init_5 : decode cX3_init 5 = .ok (.bipush 8, 2) := by decide +kernel
theorem dX3_init_7 : decode cX3_init 7 = .ok (.anewarray 9, 3) := by decide +kernel
theorem dX3_init_10 : decode cX3_init 10 = .ok (.putfield 11, 3) := by decide +kernel
theorem dX3_init_13 : decode cX3_init 13 = .ok (.iconst 0, 1) := by decide +kernel
theorem dX3_init_14 : decode cX3_init 14 = .ok (.istore_n 1, 1) := by decide +kernel
theorem dX3_init_15 : decode cX3_init 15 = .ok (.iload_n 1, 1) := by decide +kernel
theorem dX3_init_16 : decode cX3_init 16 = .ok (.bipush 8, 2) := by decide +kernel
theorem dX3_init_18 : decode cX3_init 18 = .ok (.if_icmp .ge 22, 3) := by decide +kernel
theorem dX3_init_21 : decode cX3_init 21 = .ok (.aload_n 0, 1) := by decide +kernel
theorem dX3_init_22 : decode cX3_init 22 = .ok (.getfield 11, 3) := by decide +kernel
theorem dX3_init_25 : decode cX3_init 25 = .ok (.iload_n 1, 1) := by decide +kernel
theorem dX3_init_26 : decode cX3_init 26 = .ok (.new 9, 3) := by decide +kernel
theorem dX3_init_29 : decode cX3_init 29 = .ok (.dup, 1) := by decide +kernel
theorem dX3_init_30 : decode cX3_init 30 = .ok (.invokespecial 17, 3) := by decide +kernel
theorem dX3_init_33 : decode cX3_init 33 = .ok (.aastore, 1) := by decide +kernel
theorem dX3_init_34 : decode cX3_init 34 = .ok (.iinc 1 1, 3) := by decide +kernel
theorem dX3_init_37 : decode cX3_init 37 = .ok (.goto (-22), 3) := by decide +kernel
theorem dX3_init_40 : decode cX3_init 40 = .ok (.return_, 1) := by decide +kernel
theorem dX3_remember_0 : decode cX3_remember 0 = .ok (.aload_n 0, 1) := by decide +kernel
theorem dX3_remember_1 : decode cX3_remember 1 = .ok (.getfield 11, 3) := by decide +kernel
theorem dX3_remember_4 : decode cX3_remember 4 = .ok (.aload_n 0, 1) := by decide +kernel
theorem dX3_remember_5 : decode cX3_remember 5 = .ok (.getfield 18, 3) := by decide +kernel
theorem dX3_remember_8 : decode cX3_remember 8 = .ok (.bipush 8, 2) := by decide +kernel
theorem dX3_remember_10 : decode cX3_remember 10 = .ok (.invokestatic 22, 3) := by decide +kernel
theorem dX3_remember_13 : decode cX3_remember 13 = .ok (.aaload, 1) := by decide +kernel
theorem dX3_remember_14 : decode cX3_remember 14 = .ok (.aload_n 1, 1) := by decide +kernel
theorem dX3_remember_15 : decode cX3_remember 15 = .ok (.invokevirtual 28, 3) := by decide +kernel
theorem dX3_remember_18 : decode cX3_remember 18 = .ok (.aload_n 0, 1) := by decide +kernel
theorem dX3_remember_19 : decode cX3_remember 19 = .ok (.aload_n 0, 1) := by decide +kernel
theorem dX3_remember_20 : decode cX3_remember 20 = .ok (.getfield 18, 3) := by decide +kernel
theorem dX3_remember_23 : decode cX3_remember 23 = .ok (.iconst 1, 1) := by decide +kernel
theorem dX3_remember_24 : decode cX3_remember 24 = .ok (.iadd, 1) := by decide +kernel
theorem dX3_remember_25 : decode cX3_remember 25 = .ok (.bipush 8, 2) := by decide +kernel
theorem dX3_remember_27 : decode cX3_remember 27 = .ok (.invokestatic 22, 3) := by decide +kernel
theorem dX3_remember_30 : decode cX3_remember 30 = .ok (.putfield 18, 3) := by decide +kernel
theorem dX3_remember_33 : decode cX3_remember 33 = .ok (.aload_n 0, 1) := by decide +kernel
theorem dX3_remember_34 : decode cX3_remember 34 = .ok (.getfield 32, 3) := by decide +kernel
theorem dX3_remember_37 : decode cX3_remember 37 = .ok (.bipush 8, 2) := by decide +kernel
theorem dX3_remember_39 : decode cX3_remember 39 = .ok (.if_icmp .ge 13, 3) := by decide +kernel
theorem dX3_remember_42 : decode cX3_remember 42 = .ok (.aload_n 0, 1) := by decide +kernel
theorem dX3_remember_43 : decode cX3_remember 43 = .ok (.dup, 1) := by decide +kernel
theorem dX3_remember_44 : decode cX3_remember 44 = .ok (.getfield 32, 3) := by decide +kernel
theorem dX3_remember_47 : decode cX3_remember 47 = .ok (.iconst 1, 1) := by decide +kernel
theorem dX3_remember_48 : decode cX3_remember 48 = .ok (.iadd, 1) := by decide +kernel
theorem dX3_remember_49 : decode cX3_remember 49 = .ok (.putfield 32, 3) := by decide +kernel
theorem dX3_remember_52 : decode cX3_remember 52 = .ok (.return_, 1) := by decide +kernel
theorem dX3_takeBack_0 : decode cX3_takeBack 0 = .ok (.aload_n 0, 1) := by decide +kernel
theorem dX3_takeBack_1 : decode cX3_takeBack 1 = .ok (.aload_n 0, 1) := by decide +kernel
theorem dX3_takeBack_2 : decode cX3_takeBack 2 = .ok (.getfield 18, 3) := by decide +kernel
theorem dX3_takeBack_5 : decode cX3_takeBack 5 = .ok (.iconst 1, 1) := by decide +kernel
theorem dX3_takeBack_6 : decode cX3_takeBack 6 = .ok (.isub, 1) := by decide +kernel
theorem dX3_takeBack_7 : decode cX3_takeBack 7 = .ok (.bipush 8, 2) := by decide +kernel
theorem dX3_takeBack_9 : decode cX3_takeBack 9 = .ok (.invokestatic 22, 3) := by decide +kernel
theorem dX3_takeBack_12 : decode cX3_takeBack 12 = .ok (.putfield 18, 3) := by decide +kernel
theorem dX3_takeBack_15 : decode cX3_takeBack 15 = .ok (.aload_n 1, 1) := by decide +kernel
theorem dX3_takeBack_16 : decode cX3_takeBack 16 = .ok (.aload_n 0, 1) := by decide +kernel
theorem dX3_takeBack_17 : decode cX3_takeBack 17 = .ok (.getfield 11, 3) := by decide +kernel
theorem dX3_takeBack_20 : decode cX3_takeBack 20 = .ok (.aload_n 0, 1) := by decide +kernel
theorem dX3_takeBack_21 : decode cX3_takeBack 21 = .ok (.getfield 18, 3) := by decide +kernel
theorem dX3_takeBack_24 : decode cX3_takeBack 24 = .ok (.aaload, 1) := by decide +kernel
theorem dX3_takeBack_25 : decode cX3_takeBack 25 = .ok (.invokevirtual 28, 3) := by decide +kernel
theorem dX3_takeBack_28 : decode cX3_takeBack 28 = .ok (.aload_n 0, 1) := by decide +kernel
theorem dX3_takeBack_29 : decode cX3_takeBack 29 = .ok (.dup, 1) := by decide +kernel
theorem dX3_takeBack_30 : decode cX3_takeBack 30 = .ok (.getfield 32, 3) := by decide +kernel
theorem dX3_takeBack_33 : decode cX3_takeBack 33 = .ok (.iconst 1, 1) := by decide +kernel
theorem dX3_takeBack_34 : decode cX3_takeBack 34 = .ok (.isub, 1) := by decide +kernel
theorem dX3_takeBack_35 : decode cX3_takeBack 35 = .ok (.putfield 32, 3) := by decide +kernel
theorem dX3_takeBack_38 : decode cX3_takeBack 38 = .ok (.return_, 1) := by decide +kernel
theorem dX4_init_0 : decode cX4_init 0 = .ok (.aload_n 0, 1) := by decide +kernel
theorem dX4_init_1 : decode cX4_init 1 = .ok (.invokespecial 3, 3) := by decide +kernel
theorem dX4_init_4 : decode cX4_init 4 = .ok (.aload_n 0, 1) := by decide +kernel
theorem dX4_init_5 : decode cX4_init 5 = .ok (.sipush 600, 3) := by decide +kernel
theorem dX4_init_8 : decode cX4_init 8 = .ok (.newarray .byte, 2) := by decide +kernel
theorem dX4_init_10 : decode cX4_init 10 = .ok (.putfield 9, 3) := by decide +kernel
theorem dX4_init_13 : decode cX4_init 13 = .ok (.return_, 1) := by decide +kernel
theorem dX4_addBytesOf_0 : decode cX4_addBytesOf 0 = .ok (.bipush 24, 2) := by decide +kernel
theorem dX4_addBytesOf_2 : decode cX4_addBytesOf 2 = .ok (.istore_n 2, 1) := by decide +kernel
theorem dX4_addBytesOf_3 : decode cX4_addBytesOf 3 = .ok (.iload_n 2, 1) := by decide +kernel
theorem dX4_addBytesOf_4 : decode cX4_addBytesOf 4 = .ok (.ifCond .lt 49, 3) := by decide +kernel
theorem dX4_addBytesOf_7 : decode cX4_addBytesOf 7 = .ok (.aload_n 0, 1) := by decide +kernel
theorem dX4_addBytesOf_8 : decode cX4_addBytesOf 8 = .ok (.getfield 15, 3) := by decide +kernel
theorem dX4_addBytesOf_11 : decode cX4_addBytesOf 11 = .ok (.ifCond .lt 36, 3) := by decide +kernel
theorem dX4_addBytesOf_14 : decode cX4_addBytesOf 14 = .ok (.aload_n 0, 1) := by decide +kernel
theorem dX4_addBytesOf_15 : decode cX4_addBytesOf 15 = .ok (.getfield 15, 3) := by decide +kernel
theorem dX4_addBytesOf_18 : decode cX4_addBytesOf 18 = .ok (.sipush 600, 3) := by decide +kernel
theorem dX4_addBytesOf_21 : decode cX4_addBytesOf 21 = .ok (.if_icmp .ge 26, 3) := by decide +kernel
theorem dX4_addBytesOf_24 : decode cX4_addBytesOf 24 = .ok (.aload_n 0, 1) := by decide +kernel
theorem dX4_addBytesOf_25 : decode cX4_addBytesOf 25 = .ok (.getfield 9, 3) := by decide +kernel
theorem dX4_addBytesOf_28 : decode cX4_addBytesOf 28 = .ok (.aload_n 0, 1) := by decide +kernel
theorem dX4_addBytesOf_29 : decode cX4_addBytesOf 29 = .ok (.getfield 15, 3) := by decide +kernel
theorem dX4_addBytesOf_32 : decode cX4_addBytesOf 32 = .ok (.iload_n 1, 1) := by decide +kernel
theorem dX4_addBytesOf_33 : decode cX4_addBytesOf 33 = .ok (.iload_n 2, 1) := by decide +kernel
theorem dX4_addBytesOf_34 : decode cX4_addBytesOf 34 = .ok (.ishr, 1) := by decide +kernel
theorem dX4_addBytesOf_35 : decode cX4_addBytesOf 35 = .ok (.i2b, 1) := by decide +kernel
theorem dX4_addBytesOf_36 : decode cX4_addBytesOf 36 = .ok (.bastore, 1) := by decide +kernel
theorem dX4_addBytesOf_37 : decode cX4_addBytesOf 37 = .ok (.aload_n 0, 1) := by decide +kernel
theorem dX4_addBytesOf_38 : decode cX4_addBytesOf 38 = .ok (.dup, 1) := by decide +kernel
theorem dX4_addBytesOf_39 : decode cX4_addBytesOf 39 = .ok (.getfield 15, 3) := by decide +kernel
theorem dX4_addBytesOf_42 : decode cX4_addBytesOf 42 = .ok (.iconst 1, 1) := by decide +kernel
theorem dX4_addBytesOf_43 : decode cX4_addBytesOf 43 = .ok (.iadd, 1) := by decide +kernel
theorem dX4_addBytesOf_44 : decode cX4_addBytesOf 44 = .ok (.putfield 15, 3) := by decide +kernel
theorem dX4_addBytesOf_47 : decode cX4_addBytesOf 47 = .ok (.iinc 2 (-8), 3) := by decide +kernel
theorem dX4_addBytesOf_50 : decode cX4_addBytesOf 50 = .ok (.goto (-47), 3) := by decide +kernel
theorem dX4_addBytesOf_53 : decode cX4_addBytesOf 53 = .ok (.return_, 1) := by decide +kernel
theorem dX4_byteAt_0 : decode cX4_byteAt 0 = .ok (.iload_n 1, 1) := by decide +kernel
theorem dX4_byteAt_1 : decode cX4_byteAt 1 = .ok (.ifCond .lt 31, 3) := by decide +kernel
theorem dX4_byteAt_4 : decode cX4_byteAt 4 = .ok (.iload_n 1, 1) := by decide +kernel
theorem dX4_byteAt_5 : decode cX4_byteAt 5 = .ok (.aload_n 0, 1) := by decide +kernel
theorem dX4_byteAt_6 : decode cX4_byteAt 6 = .ok (.getfield 15, 3) := by decide +kernel
theorem dX4_byteAt_9 : decode cX4_byteAt 9 = .ok (.if_icmp .ge 23, 3) := by decide +kernel
theorem dX4_byteAt_12 : decode cX4_byteAt 12 = .ok (.iload_n 1, 1) := by decide +kernel
theorem dX4_byteAt_13 : decode cX4_byteAt 13 = .ok (.sipush 600, 3) := by decide +kernel
theorem dX4_byteAt_16 : decode cX4_byteAt 16 = .ok (.if_icmp .ge 16, 3) := by decide +kernel
theorem dX4_byteAt_19 : decode cX4_byteAt 19 = .ok (.aload_n 0, 1) := by decide +kernel
theorem dX4_byteAt_20 : decode cX4_byteAt 20 = .ok (.getfield 9, 3) := by decide +kernel
theorem dX4_byteAt_23 : decode cX4_byteAt 23 = .ok (.iload_n 1, 1) := by decide +kernel
theorem dX4_byteAt_24 : decode cX4_byteAt 24 = .ok (.baload, 1) := by decide +kernel
theorem dX4_byteAt_25 : decode cX4_byteAt 25 = .ok (.sipush 255, 3) := by decide +kernel
theorem dX4_byteAt_28 : decode cX4_byteAt 28 = .ok (.iand, 1) := by decide +kernel
theorem dX4_byteAt_29 : decode cX4_byteAt 29 = .ok (.goto 4, 3) := by decide +kernel
theorem dX4_byteAt_32 : decode cX4_byteAt 32 = .ok (.iconst (-1), 1) := by decide +kernel
theorem dX4_byteAt_33 : decode cX4_byteAt 33 = .ok (.ireturn, 1) := by decide +kernel
theorem dX5_init_0 : decode cX5_init 0 = .ok (.aload_n 0, 1) := by decide +kernel
theorem dX5_init_1 : decode cX5_init 1 = .ok (.invokespecial 3, 3) := by decide +kernel
theorem dX5_init_4 : decode cX5_init 4 = .ok (.aload_n 0, 1) := by decide +kernel
theorem dX5_init_5 : decode cX5_init 5 = .ok (.new 9, 3) := by decide +kernel
theorem dX5_init_8 : decode cX5_init 8 = .ok (.dup, 1) := by decide +kernel
theorem dX5_init_9 : decode cX5_init 9 = .ok (.invokespecial 11, 3) := by decide +kernel
theorem dX5_init_12 : decode cX5_init 12 = .ok (.putfield 12, 3) := by decide +kernel
theorem dX5_init_15 : decode cX5_init 15 = .ok (.aload_n 0, 1) := by decide +kernel
theorem dX5_init_16 : decode cX5_init 16 = .ok (.bipush 8, 2) := by decide +kernel
theorem dX5_init_18 : decode cX5_init 18 = .ok (.anewarray 18, 3) := by decide +kernel
theorem dX5_init_21 : decode cX5_init 21 = .ok (.putfield 20, 3) := by decide +kernel
theorem dX5_init_24 : decode cX5_init 24 = .ok (.aload_n 0, 1) := by decide +kernel
theorem dX5_init_25 : decode cX5_init 25 = .ok (.bipush 6, 2) := by decide +kernel
theorem dX5_init_27 : decode cX5_init 27 = .ok (.anewarray 24, 3) := by decide +kernel
theorem dX5_init_30 : decode cX5_init 30 = .ok (.putfield 26, 3) := by decide +kernel
theorem dX5_init_33 : decode cX5_init 33 = .ok (.iconst 0, 1) := by decide +kernel
theorem dX5_init_34 : decode cX5_init 34 = .ok (.istore_n 1, 1) := by decide +kernel
theorem dX5_init_35 : decode cX5_init 35 = .ok (.iload_n 1, 1) := by decide +kernel
theorem dX5_init_36 : decode cX5_init 36 = .ok (.bipush 8, 2) := by decide +kernel
theorem dX5_init_38 : decode cX5_init 38 = .ok (.if_icmp .ge 22, 3) := by decide +kernel
theorem dX5_init_41 : decode cX5_init 41 = .ok (.aload_n 0, 1) := by decide +kernel
theorem dX5_init_42 : decode cX5_init 42 = .ok (.getfield 20, 3) := by decide +kernel
theorem dX5_init_45 : decode cX5_init 45 = .ok (.iload_n 1, 1) := by decide +kernel
theorem dX5_init_46 : decode cX5_init 46 = .ok (.new 18, 3) := by decide +kernel
theorem dX5_init_49 : decode cX5_init 49 = .ok (.dup, 1) := by decide +kernel
theorem dX5_init_50 : decode cX5_init 50 = .ok (.invokespecial 30, 3) := by decide +kernel
theorem dX5_init_53 : decode cX5_init 53 = .ok (.aastore, 1) := by decide +kernel
theorem dX5_init_54 : decode cX5_init 54 = .ok (.iinc 1 1, 3) := by decide +kernel
theorem dX5_init_57 : decode cX5_init 57 = .ok (.goto (-22), 3) := by decide +kernel
theorem dX5_init_60 : decode cX5_init 60 = .ok (.iconst 0, 1) := by decide +kernel
theorem dX5_init_61 : decode cX5_init 61 = .ok (.istore_n 1, 1) := by decide +kernel
theorem dX5_init_62 : decode cX5_init 62 = .ok (.iload_n 1, 1) := by decide +kernel
theorem dX5_init_63 : decode cX5_init 63 = .ok (.bipush 6, 2) := by decide +kernel
theorem dX5_init_65 : decode cX5_init 65 = .ok (.if_icmp .ge 22, 3) := by decide +kernel
theorem dX5_init_68 : decode cX5_init 68 = .ok (.aload_n 0, 1) := by decide +kernel
theorem dX5_init_69 : decode cX5_init 69 = .ok (.getfield 26, 3) := by decide +kernel
theorem dX5_init_72 : decode cX5_init 72 = .ok (.iload_n 1, 1) := by decide +kernel
theorem dX5_init_73 : decode cX5_init 73 = .ok (.new 24, 3) := by decide +kernel
theorem dX5_init_76 : decode cX5_init 76 = .ok (.dup, 1) := by decide +kernel
theorem dX5_init_77 : decode cX5_init 77 = .ok (.invokespecial 31, 3) := by decide +kernel
theorem dX5_init_80 : decode cX5_init 80 = .ok (.aastore, 1) := by decide +kernel
theorem dX5_init_81 : decode cX5_init 81 = .ok (.iinc 1 1, 3) := by decide +kernel
theorem dX5_init_84 : decode cX5_init 84 = .ok (.goto (-22), 3) := by decide +kernel
theorem dX5_init_87 : decode cX5_init 87 = .ok (.aload_n 0, 1) := by decide +kernel
theorem dX5_init_88 : decode cX5_init 88 = .ok (.invokevirtual 32, 3) := by decide +kernel
theorem dX5_init_91 : decode cX5_init 91 = .ok (.return_, 1) := by decide +kernel
theorem dX5_clear_0 : decode cX5_clear 0 = .ok (.aload_n 0, 1) := by decide +kernel
theorem dX5_clear_1 : decode cX5_clear 1 = .ok (.getfield 12, 3) := by decide +kernel
theorem dX5_clear_4 : decode cX5_clear 4 = .ok (.invokevirtual 35, 3) := by decide +kernel
theorem dX5_clear_7 : decode cX5_clear 7 = .ok (.iconst 0, 1) := by decide +kernel
theorem dX5_clear_8 : decode cX5_clear 8 = .ok (.istore_n 1, 1) := by decide +kernel
theorem dX5_clear_9 : decode cX5_clear 9 = .ok (.iload_n 1, 1) := by decide +kernel
theorem dX5_clear_10 : decode cX5_clear 10 = .ok (.bipush 8, 2) := by decide +kernel
theorem dX5_clear_12 : decode cX5_clear 12 = .ok (.if_icmp .ge 19, 3) := by decide +kernel
theorem dX5_clear_15 : decode cX5_clear 15 = .ok (.aload_n 0, 1) := by decide +kernel
theorem dX5_clear_16 : decode cX5_clear 16 = .ok (.getfield 20, 3) := by decide +kernel
theorem dX5_clear_19 : decode cX5_clear 19 = .ok (.iload_n 1, 1) := by decide +kernel
theorem dX5_clear_20 : decode cX5_clear 20 = .ok (.aaload, 1) := by decide +kernel
theorem dX5_clear_21 : decode cX5_clear 21 = .ok (.iconst 0, 1) := by decide +kernel
theorem dX5_clear_22 : decode cX5_clear 22 = .ok (.invokevirtual 36, 3) := by decide +kernel
theorem dX5_clear_25 : decode cX5_clear 25 = .ok (.iinc 1 1, 3) := by decide +kernel
theorem dX5_clear_28 : decode cX5_clear 28 = .ok (.goto (-19), 3) := by decide +kernel
theorem dX5_clear_31 : decode cX5_clear 31 = .ok (.aload_n 0, 1) := by decide +kernel
theorem dX5_clear_32 : decode cX5_clear 32 = .ok (.iconst 0, 1) := by decide +kernel
theorem dX5_clear_33 : decode cX5_clear 33 = .ok (.putfield 40, 3) := by decide +kernel
theorem dX5_clear_36 : decode cX5_clear 36 = .ok (.aload_n 0, 1) := by decide +kernel
theorem dX5_clear_37 : decode cX5_clear 37 = .ok (.iconst 0, 1) := by decide +kernel
theorem dX5_clear_38 : decode cX5_clear 38 = .ok (.putfield 44, 3) := by decide +kernel
theorem dX5_clear_41 : decode cX5_clear 41 = .ok (.aload_n 0, 1) := by decide +kernel
theorem dX5_clear_42 : decode cX5_clear 42 = .ok (.sipush 580, 3) := by decide +kernel
theorem dX5_clear_45 : decode cX5_clear 45 = .ok (.putfield 47, 3) := by decide +kernel
theorem dX5_clear_48 : decode cX5_clear 48 = .ok (.aload_n 0, 1) := by decide +kernel
theorem dX5_clear_49 : decode cX5_clear 49 = .ok (.bipush 20, 2) := by decide +kernel
theorem dX5_clear_51 : decode cX5_clear 51 = .ok (.putfield 50, 3) := by decide +kernel
theorem dX5_clear_54 : decode cX5_clear 54 = .ok (.aload_n 0, 1) := by decide +kernel
theorem dX5_clear_55 : decode cX5_clear 55 = .ok (.iconst 0, 1) := by decide +kernel
theorem dX5_clear_56 : decode cX5_clear 56 = .ok (.putfield 53, 3) := by decide +kernel
theorem dX5_clear_59 : decode cX5_clear 59 = .ok (.aload_n 0, 1) := by decide +kernel
theorem dX5_clear_60 : decode cX5_clear 60 = .ok (.iconst 0, 1) := by decide +kernel
theorem dX5_clear_61 : decode cX5_clear 61 = .ok (.putfield 56, 3) := by decide +kernel
theorem dX5_clear_64 : decode cX5_clear 64 = .ok (.aload_n 0, 1) := by decide +kernel
theorem dX5_clear_65 : decode cX5_clear 65 = .ok (.iconst 0, 1) := by decide +kernel
theorem dX5_clear_66 : decode cX5_clear 66 = .ok (.putfield 59, 3) := by decide +kernel
theorem dX5_clear_69 : decode cX5_clear 69 = .ok (.aload_n 0, 1) := by decide +kernel
theorem dX5_clear_70 : decode cX5_clear 70 = .ok (.iconst 0, 1) := by decide +kernel
theorem dX5_clear_71 : decode cX5_clear 71 = .ok (.putfield 62, 3) := by decide +kernel
theorem dX5_clear_74 : decode cX5_clear 74 = .ok (.aload_n 0, 1) := by decide +kernel
theorem dX5_clear_75 : decode cX5_clear 75 = .ok (.iconst 0, 1) := by decide +kernel
theorem dX5_clear_76 : decode cX5_clear 76 = .ok (.putfield 65, 3) := by decide +kernel
theorem dX5_clear_79 : decode cX5_clear 79 = .ok (.aload_n 0, 1) := by decide +kernel
theorem dX5_clear_80 : decode cX5_clear 80 = .ok (.iconst 0, 1) := by decide +kernel
theorem dX5_clear_81 : decode cX5_clear 81 = .ok (.putfield 68, 3) := by decide +kernel
theorem dX5_clear_84 : decode cX5_clear 84 = .ok (.return_, 1) := by decide +kernel
theorem dX5_become_0 : decode cX5_become 0 = .ok (.aload_n 0, 1) := by decide +kernel
theorem dX5_become_1 : decode cX5_become 1 = .ok (.getfield 12, 3) := by decide +kernel
theorem dX5_become_4 : decode cX5_become 4 = .ok (.aload_n 1, 1) := by decide +kernel
theorem dX5_become_5 : decode cX5_become 5 = .ok (.getfield 12, 3) := by decide +kernel
theorem dX5_become_8 : decode cX5_become 8 = .ok (.invokevirtual 71, 3) := by decide +kernel
theorem dX5_become_11 : decode cX5_become 11 = .ok (.iconst 0, 1) := by decide +kernel
theorem dX5_become_12 : decode cX5_become 12 = .ok (.istore_n 2, 1) := by decide +kernel
theorem dX5_become_13 : decode cX5_become 13 = .ok (.iload_n 2, 1) := by decide +kernel
theorem dX5_become_14 : decode cX5_become 14 = .ok (.bipush 8, 2) := by decide +kernel
theorem dX5_become_16 : decode cX5_become 16 = .ok (.if_icmp .ge 24, 3) := by decide +kernel
theorem dX5_become_19 : decode cX5_become 19 = .ok (.aload_n 0, 1) := by decide +kernel
theorem dX5_become_20 : decode cX5_become 20 = .ok (.getfield 20, 3) := by decide +kernel
theorem dX5_become_23 : decode cX5_become 23 = .ok (.iload_n 2, 1) := by decide +kernel
theorem dX5_become_24 : decode cX5_become 24 = .ok (.aaload, 1) := by decide +kernel
theorem dX5_become_25 : decode cX5_become 25 = .ok (.aload_n 1, 1) := by decide +kernel
theorem dX5_become_26 : decode cX5_become 26 = .ok (.getfield 20, 3) := by decide +kernel
theorem dX5_become_29 : decode cX5_become 29 = .ok (.iload_n 2, 1) := by decide +kernel
theorem dX5_become_30 : decode cX5_become 30 = .ok (.aaload, 1) := by decide +kernel
theorem dX5_become_31 : decode cX5_become 31 = .ok (.invokevirtual 75, 3) := by decide +kernel
theorem dX5_become_34 : decode cX5_become 34 = .ok (.iinc 2 1, 3) := by decide +kernel
theorem dX5_become_37 : decode cX5_become 37 = .ok (.goto (-24), 3) := by decide +kernel
theorem dX5_become_40 : decode cX5_become 40 = .ok (.aload_n 0, 1) := by decide +kernel
theorem dX5_become_41 : decode cX5_become 41 = .ok (.aload_n 1, 1) := by decide +kernel
theorem dX5_become_42 : decode cX5_become 42 = .ok (.getfield 40, 3) := by decide +kernel
theorem dX5_become_45 : decode cX5_become 45 = .ok (.putfield 40, 3) := by decide +kernel
theorem dX5_become_48 : decode cX5_become 48 = .ok (.iconst 0, 1) := by decide +kernel
theorem dX5_become_49 : decode cX5_become 49 = .ok (.istore_n 2, 1) := by decide +kernel
theorem dX5_become_50 : decode cX5_become 50 = .ok (.iload_n 2, 1) := by decide +kernel
theorem dX5_become_51 : decode cX5_become 51 = .ok (.bipush 6, 2) := by decide +kernel
theorem dX5_become_53 : decode cX5_become 53 = .ok (.if_icmp .ge 24, 3) := by decide +kernel
theorem dX5_become_56 : decode cX5_become 56 = .ok (.aload_n 0, 1) := by decide +kernel
theorem dX5_become_57 : decode cX5_become 57 = .ok (.getfield 26, 3) := by decide +kernel
theorem dX5_become_60 : decode cX5_become 60 = .ok (.iload_n 2, 1) := by decide +kernel
theorem dX5_become_61 : decode cX5_become 61 = .ok (.aaload, 1) := by decide +kernel
theorem dX5_become_62 : decode cX5_become 62 = .ok (.aload_n 1, 1) := by decide +kernel
theorem dX5_become_63 : decode cX5_become 63 = .ok (.getfield 26, 3) := by decide +kernel
theorem dX5_become_66 : decode cX5_become 66 = .ok (.iload_n 2, 1) := by decide +kernel
theorem dX5_become_67 : decode cX5_become 67 = .ok (.aaload, 1) := by decide +kernel
theorem dX5_become_68 : decode cX5_become 68 = .ok (.invokevirtual 78, 3) := by decide +kernel
theorem dX5_become_71 : decode cX5_become 71 = .ok (.iinc 2 1, 3) := by decide +kernel
theorem dX5_become_74 : decode cX5_become 74 = .ok (.goto (-24), 3) := by decide +kernel
theorem dX5_become_77 : decode cX5_become 77 = .ok (.aload_n 0, 1) := by decide +kernel
theorem dX5_become_78 : decode cX5_become 78 = .ok (.aload_n 1, 1) := by decide +kernel
theorem dX5_become_79 : decode cX5_become 79 = .ok (.getfield 44, 3) := by decide +kernel
theorem dX5_become_82 : decode cX5_become 82 = .ok (.putfield 44, 3) := by decide +kernel
theorem dX5_become_85 : decode cX5_become 85 = .ok (.aload_n 0, 1) := by decide +kernel
theorem dX5_become_86 : decode cX5_become 86 = .ok (.aload_n 1, 1) := by decide +kernel
theorem dX5_become_87 : decode cX5_become 87 = .ok (.getfield 47, 3) := by decide +kernel
theorem dX5_become_90 : decode cX5_become 90 = .ok (.putfield 47, 3) := by decide +kernel
theorem dX5_become_93 : decode cX5_become 93 = .ok (.aload_n 0, 1) := by decide +kernel
theorem dX5_become_94 : decode cX5_become 94 = .ok (.aload_n 1, 1) := by decide +kernel
theorem dX5_become_95 : decode cX5_become 95 = .ok (.getfield 50, 3) := by decide +kernel
theorem dX5_become_98 : decode cX5_become 98 = .ok (.putfield 50, 3) := by decide +kernel
theorem dX5_become_101 : decode cX5_become 101 = .ok (.aload_n 0, 1) := by decide +kernel
theorem dX5_become_102 : decode cX5_become 102 = .ok (.aload_n 1, 1) := by decide +kernel
theorem dX5_become_103 : decode cX5_become 103 = .ok (.getfield 53, 3) := by decide +kernel
theorem dX5_become_106 : decode cX5_become 106 = .ok (.putfield 53, 3) := by decide +kernel
theorem dX5_become_109 : decode cX5_become 109 = .ok (.aload_n 0, 1) := by decide +kernel
theorem dX5_become_110 : decode cX5_become 110 = .ok (.aload_n 1, 1) := by decide +kernel
theorem dX5_become_111 : decode cX5_become 111 = .ok (.getfield 56, 3) := by decide +kernel
theorem dX5_become_114 : decode cX5_become 114 = .ok (.putfield 56, 3) := by decide +kernel
theorem dX5_become_117 : decode cX5_become 117 = .ok (.aload_n 0, 1) := by decide +kernel
theorem dX5_become_118 : decode cX5_become 118 = .ok (.aload_n 1, 1) := by decide +kernel
theorem dX5_become_119 : decode cX5_become 119 = .ok (.getfield 59, 3) := by decide +kernel
theorem dX5_become_122 : decode cX5_become 122 = .ok (.putfield 59, 3) := by decide +kernel
theorem dX5_become_125 : decode cX5_become 125 = .ok (.aload_n 0, 1) := by decide +kernel
theorem dX5_become_126 : decode cX5_become 126 = .ok (.aload_n 1, 1) := by decide +kernel
theorem dX5_become_127 : decode cX5_become 127 = .ok (.getfield 62, 3) := by decide +kernel
theorem dX5_become_130 : decode cX5_become 130 = .ok (.putfield 62, 3) := by decide +kernel
theorem dX5_become_133 : decode cX5_become 133 = .ok (.aload_n 0, 1) := by decide +kernel
theorem dX5_become_134 : decode cX5_become 134 = .ok (.aload_n 1, 1) := by decide +kernel
theorem dX5_become_135 : decode cX5_become 135 = .ok (.getfield 65, 3) := by decide +kernel
theorem dX5_become_138 : decode cX5_become 138 = .ok (.putfield 65, 3) := by decide +kernel
theorem dX5_become_141 : decode cX5_become 141 = .ok (.aload_n 0, 1) := by decide +kernel
theorem dX5_become_142 : decode cX5_become 142 = .ok (.aload_n 1, 1) := by decide +kernel
theorem dX5_become_143 : decode cX5_become 143 = .ok (.getfield 68, 3) := by decide +kernel
theorem dX5_become_146 : decode cX5_become 146 = .ok (.putfield 68, 3) := by decide +kernel
theorem dX5_become_149 : decode cX5_become 149 = .ok (.return_, 1) := by decide +kernel
theorem dX5_hasTrough_0 : decode cX5_hasTrough 0 = .ok (.iload_n 1, 1) := by decide +kernel
theorem dX5_hasTrough_1 : decode cX5_hasTrough 1 = .ok (.ifCond .lt 15, 3) := by decide +kernel
theorem dX5_hasTrough_4 : decode cX5_hasTrough 4 = .ok (.iload_n 1, 1) := by decide +kernel
theorem dX5_hasTrough_5 : decode cX5_hasTrough 5 = .ok (.aload_n 0, 1) := by decide +kernel
theorem dX5_hasTrough_6 : decode cX5_hasTrough 6 = .ok (.getfield 40, 3) := by decide +kernel
theorem dX5_hasTrough_9 : decode cX5_hasTrough 9 = .ok (.if_icmp .ge 7, 3) := by decide +kernel
theorem dX5_hasTrough_12 : decode cX5_hasTrough 12 = .ok (.iconst 1, 1) := by decide +kernel
theorem dX5_hasTrough_13 : decode cX5_hasTrough 13 = .ok (.goto 4, 3) := by decide +kernel
theorem dX5_hasTrough_16 : decode cX5_hasTrough 16 = .ok (.iconst 0, 1) := by decide +kernel
theorem dX5_hasTrough_17 : decode cX5_hasTrough 17 = .ok (.ireturn, 1) := by decide +kernel
theorem dX5_troughAt_0 : decode cX5_troughAt 0 = .ok (.iload_n 1, 1) := by decide +kernel
theorem dX5_troughAt_1 : decode cX5_troughAt 1 = .ok (.ifCond .lt 18, 3) := by decide +kernel
theorem dX5_troughAt_4 : decode cX5_troughAt 4 = .ok (.iload_n 1, 1) := by decide +kernel
theorem dX5_troughAt_5 : decode cX5_troughAt 5 = .ok (.bipush 8, 2) := by decide +kernel
theorem dX5_troughAt_7 : decode cX5_troughAt 7 = .ok (.if_icmp .ge 12, 3) := by decide +kernel
theorem dX5_troughAt_10 : decode cX5_troughAt 10 = .ok (.aload_n 0, 1) := by decide +kernel
theorem dX5_troughAt_11 : decode cX5_troughAt 11 = .ok (.getfield 20, 3) := by decide +kernel
theorem dX5_troughAt_14 : decode cX5_troughAt 14 = .ok (.iload_n 1, 1) := by decide +kernel
theorem dX5_troughAt_15 : decode cX5_troughAt 15 = .ok (.aaload, 1) := by decide +kernel
theorem dX5_troughAt_16 : decode cX5_troughAt 16 = .ok (.goto 9, 3) := by decide +kernel
theorem dX5_troughAt_19 : decode cX5_troughAt 19 = .ok (.aload_n 0, 1) := by decide +kernel
theorem dX5_troughAt_20 : decode cX5_troughAt 20 = .ok (.getfield 20, 3) := by decide +kernel
theorem dX5_troughAt_23 : decode cX5_troughAt 23 = .ok (.iconst 0, 1) := by decide +kernel
theorem dX5_troughAt_24 : decode cX5_troughAt 24 = .ok (.aaload, 1) := by decide +kernel
theorem dX5_troughAt_25 : decode cX5_troughAt 25 = .ok (.areturn, 1) := by decide +kernel
theorem dX5_hasProbe_0 : decode cX5_hasProbe 0 = .ok (.iload_n 1, 1) := by decide +kernel
theorem dX5_hasProbe_1 : decode cX5_hasProbe 1 = .ok (.ifCond .lt 15, 3) := by decide +kernel
theorem dX5_hasProbe_4 : decode cX5_hasProbe 4 = .ok (.iload_n 1, 1) := by decide +kernel
theorem dX5_hasProbe_5 : decode cX5_hasProbe 5 = .ok (.aload_n 0, 1) := by decide +kernel
theorem dX5_hasProbe_6 : decode cX5_hasProbe 6 = .ok (.getfield 44, 3) := by decide +kernel
theorem dX5_hasProbe_9 : decode cX5_hasProbe 9 = .ok (.if_icmp .ge 7, 3) := by decide +kernel
theorem dX5_hasProbe_12 : decode cX5_hasProbe 12 = .ok (.iconst 1, 1) := by decide +kernel
theorem dX5_hasProbe_13 : decode cX5_hasProbe 13 = .ok (.goto 4, 3) := by decide +kernel
theorem dX5_hasProbe_16 : decode cX5_hasProbe 16 = .ok (.iconst 0, 1) := by decide +kernel
theorem dX5_hasProbe_17 : decode cX5_hasProbe 17 = .ok (.ireturn, 1) := by decide +kernel
theorem dX5_probeAt_0 : decode cX5_probeAt 0 = .ok (.iload_n 1, 1) := by decide +kernel
theorem dX5_probeAt_1 : decode cX5_probeAt 1 = .ok (.ifCond .lt 18, 3) := by decide +kernel
theorem dX5_probeAt_4 : decode cX5_probeAt 4 = .ok (.iload_n 1, 1) := by decide +kernel
theorem dX5_probeAt_5 : decode cX5_probeAt 5 = .ok (.bipush 6, 2) := by decide +kernel
theorem dX5_probeAt_7 : decode cX5_probeAt 7 = .ok (.if_icmp .ge 12, 3) := by decide +kernel
theorem dX5_probeAt_10 : decode cX5_probeAt 10 = .ok (.aload_n 0, 1) := by decide +kernel
theorem dX5_probeAt_11 : decode cX5_probeAt 11 = .ok (.getfield 26, 3) := by decide +kernel
theorem dX5_probeAt_14 : decode cX5_probeAt 14 = .ok (.iload_n 1, 1) := by decide +kernel
theorem dX5_probeAt_15 : decode cX5_probeAt 15 = .ok (.aaload, 1) := by decide +kernel
theorem dX5_probeAt_16 : decode cX5_probeAt 16 = .ok (.goto 9, 3) := by decide +kernel
theorem dX5_probeAt_19 : decode cX5_probeAt 19 = .ok (.aload_n 0, 1) := by decide +kernel
theorem dX5_probeAt_20 : decode cX5_probeAt 20 = .ok (.getfield 26, 3) := by decide +kernel
theorem dX5_probeAt_23 : decode cX5_probeAt 23 = .ok (.iconst 0, 1) := by decide +kernel
theorem dX5_probeAt_24 : decode cX5_probeAt 24 = .ok (.aaload, 1) := by decide +kernel
theorem dX5_probeAt_25 : decode cX5_probeAt 25 = .ok (.areturn, 1) := by decide +kernel
theorem dX5_hasRoomForTrough_0 : decode cX5_hasRoomForTrough 0 = .ok (.aload_n 0, 1) := by decide +kernel
theorem dX5_hasRoomForTrough_1 : decode cX5_hasRoomForTrough 1 = .ok (.getfield 40, 3) := by decide +kernel
theorem dX5_hasRoomForTrough_4 : decode cX5_hasRoomForTrough 4 = .ok (.bipush 8, 2) := by decide +kernel
theorem dX5_hasRoomForTrough_6 : decode cX5_hasRoomForTrough 6 = .ok (.if_icmp .ge 7, 3) := by decide +kernel
theorem dX5_hasRoomForTrough_9 : decode cX5_hasRoomForTrough 9 = .ok (.iconst 1, 1) := by decide +kernel
theorem dX5_hasRoomForTrough_10 : decode cX5_hasRoomForTrough 10 = .ok (.goto 4, 3) := by decide +kernel
theorem dX5_hasRoomForTrough_13 : decode cX5_hasRoomForTrough 13 = .ok (.iconst 0, 1) := by decide +kernel
theorem dX5_hasRoomForTrough_14 : decode cX5_hasRoomForTrough 14 = .ok (.ireturn, 1) := by decide +kernel
theorem dX5_placeTrough_0 : decode cX5_placeTrough 0 = .ok (.aload_n 0, 1) := by decide +kernel
theorem dX5_placeTrough_1 : decode cX5_placeTrough 1 = .ok (.aload_n 0, 1) := by decide +kernel
theorem dX5_placeTrough_2 : decode cX5_placeTrough 2 = .ok (.getfield 40, 3) := by decide +kernel
theorem dX5_placeTrough_5 : decode cX5_placeTrough 5 = .ok (.invokevirtual 81, 3) := by decide +kernel
theorem dX5_placeTrough_8 : decode cX5_placeTrough 8 = .ok (.iload_n 1, 1) := by decide +kernel
theorem dX5_placeTrough_9 : decode cX5_placeTrough 9 = .ok (.invokevirtual 36, 3) := by decide +kernel
theorem dX5_placeTrough_12 : decode cX5_placeTrough 12 = .ok (.aload_n 0, 1) := by decide +kernel
theorem dX5_placeTrough_13 : decode cX5_placeTrough 13 = .ok (.dup, 1) := by decide +kernel
theorem dX5_placeTrough_14 : decode cX5_placeTrough 14 = .ok (.getfield 40, 3) := by decide +kernel
theorem dX5_placeTrough_17 : decode cX5_placeTrough 17 = .ok (.iconst 1, 1) := by decide +kernel
theorem dX5_placeTrough_18 : decode cX5_placeTrough 18 = .ok (.iadd, 1) := by decide +kernel
theorem dX5_placeTrough_19 : decode cX5_placeTrough 19 = .ok (.putfield 40, 3) := by decide +kernel
theorem dX5_placeTrough_22 : decode cX5_placeTrough 22 = .ok (.aload_n 0, 1) := by decide +kernel
theorem dX5_placeTrough_23 : decode cX5_placeTrough 23 = .ok (.getfield 40, 3) := by decide +kernel
theorem dX5_placeTrough_26 : decode cX5_placeTrough 26 = .ok (.iconst 1, 1) := by decide +kernel
theorem dX5_placeTrough_27 : decode cX5_placeTrough 27 = .ok (.isub, 1) := by decide +kernel
theorem dX5_placeTrough_28 : decode cX5_placeTrough 28 = .ok (.ireturn, 1) := by decide +kernel
theorem dX5_hasRoomForProbe_0 : decode cX5_hasRoomForProbe 0 = .ok (.aload_n 0, 1) := by decide +kernel
theorem dX5_hasRoomForProbe_1 : decode cX5_hasRoomForProbe 1 = .ok (.getfield 44, 3) := by decide +kernel
theorem dX5_hasRoomForProbe_4 : decode cX5_hasRoomForProbe 4 = .ok (.bipush 6, 2) := by decide +kernel
theorem dX5_hasRoomForProbe_6 : decode cX5_hasRoomForProbe 6 = .ok (.if_icmp .ge 7, 3) := by decide +kernel
theorem dX5_hasRoomForProbe_9 : decode cX5_hasRoomForProbe 9 = .ok (.iconst 1, 1) := by decide +kernel
theorem dX5_hasRoomForProbe_10 : decode cX5_hasRoomForProbe 10 = .ok (.goto 4, 3) := by decide +kernel
theorem dX5_hasRoomForProbe_13 : decode cX5_hasRoomForProbe 13 = .ok (.iconst 0, 1) := by decide +kernel
theorem dX5_hasRoomForProbe_14 : decode cX5_hasRoomForProbe 14 = .ok (.ireturn, 1) := by decide +kernel
theorem dX5_placeProbe_0 : decode cX5_placeProbe 0 = .ok (.aload_n 0, 1) := by decide +kernel
theorem dX5_placeProbe_1 : decode cX5_placeProbe 1 = .ok (.aload_n 0, 1) := by decide +kernel
theorem dX5_placeProbe_2 : decode cX5_placeProbe 2 = .ok (.getfield 44, 3) := by decide +kernel
theorem dX5_placeProbe_5 : decode cX5_placeProbe 5 = .ok (.invokevirtual 85, 3) := by decide +kernel
theorem dX5_placeProbe_8 : decode cX5_placeProbe 8 = .ok (.astore 4, 2) := by decide +kernel
theorem dX5_placeProbe_10 : decode cX5_placeProbe 10 = .ok (.aload 4, 2) := by decide +kernel
theorem dX5_placeProbe_12 : decode cX5_placeProbe 12 = .ok (.iload_n 1, 1) := by decide +kernel
theorem dX5_placeProbe_13 : decode cX5_placeProbe 13 = .ok (.putfield 89, 3) := by decide +kernel
theorem dX5_placeProbe_16 : decode cX5_placeProbe 16 = .ok (.aload 4, 2) := by decide +kernel
theorem dX5_placeProbe_18 : decode cX5_placeProbe 18 = .ok (.iload_n 2, 1) := by decide +kernel
theorem dX5_placeProbe_19 : decode cX5_placeProbe 19 = .ok (.putfield 92, 3) := by decide +kernel
theorem dX5_placeProbe_22 : decode cX5_placeProbe 22 = .ok (.aload 4, 2) := by decide +kernel
theorem dX5_placeProbe_24 : decode cX5_placeProbe 24 = .ok (.iload_n 3, 1) := by decide +kernel
theorem dX5_placeProbe_25 : decode cX5_placeProbe 25 = .ok (.putfield 95, 3) := by decide +kernel
theorem dX5_placeProbe_28 : decode cX5_placeProbe 28 = .ok (.aload_n 0, 1) := by decide +kernel
theorem dX5_placeProbe_29 : decode cX5_placeProbe 29 = .ok (.dup, 1) := by decide +kernel
theorem dX5_placeProbe_30 : decode cX5_placeProbe 30 = .ok (.getfield 44, 3) := by decide +kernel
theorem dX5_placeProbe_33 : decode cX5_placeProbe 33 = .ok (.iconst 1, 1) := by decide +kernel
theorem dX5_placeProbe_34 : decode cX5_placeProbe 34 = .ok (.iadd, 1) := by decide +kernel
theorem dX5_placeProbe_35 : decode cX5_placeProbe 35 = .ok (.putfield 44, 3) := by decide +kernel
theorem dX5_placeProbe_38 : decode cX5_placeProbe 38 = .ok (.aload_n 0, 1) := by decide +kernel
theorem dX5_placeProbe_39 : decode cX5_placeProbe 39 = .ok (.getfield 44, 3) := by decide +kernel
theorem dX5_placeProbe_42 : decode cX5_placeProbe 42 = .ok (.iconst 1, 1) := by decide +kernel
theorem dX5_placeProbe_43 : decode cX5_placeProbe 43 = .ok (.isub, 1) := by decide +kernel
theorem dX5_placeProbe_44 : decode cX5_placeProbe 44 = .ok (.ireturn, 1) := by decide +kernel
theorem dX5_aimAt_0 : decode cX5_aimAt 0 = .ok (.aload_n 0, 1) := by decide +kernel
theorem dX5_aimAt_1 : decode cX5_aimAt 1 = .ok (.iload_n 1, 1) := by decide +kernel
theorem dX5_aimAt_2 : decode cX5_aimAt 2 = .ok (.putfield 47, 3) := by decide +kernel
theorem dX5_aimAt_5 : decode cX5_aimAt 5 = .ok (.aload_n 0, 1) := by decide +kernel
theorem dX5_aimAt_6 : decode cX5_aimAt 6 = .ok (.iload_n 2, 1) := by decide +kernel
theorem dX5_aimAt_7 : decode cX5_aimAt 7 = .ok (.putfield 50, 3) := by decide +kernel
theorem dX5_aimAt_10 : decode cX5_aimAt 10 = .ok (.return_, 1) := by decide +kernel
theorem dX5_putLeaf_0 : decode cX5_putLeaf 0 = .ok (.aload_n 1, 1) := by decide +kernel
theorem dX5_putLeaf_1 : decode cX5_putLeaf 1 = .ok (.iload_n 2, 1) := by decide +kernel
theorem dX5_putLeaf_2 : decode cX5_putLeaf 2 = .ok (.iload_n 3, 1) := by decide +kernel
theorem dX5_putLeaf_3 : decode cX5_putLeaf 3 = .ok (.invokevirtual 98, 3) := by decide +kernel
theorem dX5_putLeaf_6 : decode cX5_putLeaf 6 = .ok (.aload_n 0, 1) := by decide +kernel
theorem dX5_putLeaf_7 : decode cX5_putLeaf 7 = .ok (.dup, 1) := by decide +kernel
theorem dX5_putLeaf_8 : decode cX5_putLeaf 8 = .ok (.getfield 53, 3) := by decide +kernel
theorem dX5_putLeaf_11 : decode cX5_putLeaf 11 = .ok (.iload_n 2, 1) := by decide +kernel
theorem dX5_putLeaf_12 : decode cX5_putLeaf 12 = .ok (.iadd, 1) := by decide +kernel
theorem dX5_putLeaf_13 : decode cX5_putLeaf 13 = .ok (.putfield 53, 3) := by decide +kernel
theorem dX5_putLeaf_16 : decode cX5_putLeaf 16 = .ok (.return_, 1) := by decide +kernel
theorem dX5_dischargeLeaf_0 : decode cX5_dischargeLeaf 0 = .ok (.aload_n 1, 1) := by decide +kernel
theorem dX5_dischargeLeaf_1 : decode cX5_dischargeLeaf 1 = .ok (.getfield 102, 3) := by decide +kernel
theorem dX5_dischargeLeaf_4 : decode cX5_dischargeLeaf 4 = .ok (.aload_n 1, 1) := by decide +kernel
theorem dX5_dischargeLeaf_5 : decode cX5_dischargeLeaf 5 = .ok (.invokevirtual 105, 3) := by decide +kernel
theorem dX5_dischargeLeaf_8 : decode cX5_dischargeLeaf 8 = .ok (.imul, 1) := by decide +kernel
theorem dX5_dischargeLeaf_9 : decode cX5_dischargeLeaf 9 = .ok (.bipush 100, 2) := by decide +kernel
theorem dX5_dischargeLeaf_11 : decode cX5_dischargeLeaf 11 = .ok (.idiv, 1) := by decide +kernel
theorem dX5_dischargeLeaf_12 : decode cX5_dischargeLeaf 12 = .ok (.istore_n 2, 1) := by decide +kernel
theorem dX5_dischargeLeaf_13 : decode cX5_dischargeLeaf 13 = .ok (.aload_n 0, 1) := by decide +kernel
theorem dX5_dischargeLeaf_14 : decode cX5_dischargeLeaf 14 = .ok (.dup, 1) := by decide +kernel
theorem dX5_dischargeLeaf_15 : decode cX5_dischargeLeaf 15 = .ok (.getfield 65, 3) := by decide +kernel
theorem dX5_dischargeLeaf_18 : decode cX5_dischargeLeaf 18 = .ok (.iload_n 2, 1) := by decide +kernel
theorem dX5_dischargeLeaf_19 : decode cX5_dischargeLeaf 19 = .ok (.iadd, 1) := by decide +kernel
theorem dX5_dischargeLeaf_20 : decode cX5_dischargeLeaf 20 = .ok (.putfield 65, 3) := by decide +kernel
theorem dX5_dischargeLeaf_23 : decode cX5_dischargeLeaf 23 = .ok (.aload_n 0, 1) := by decide +kernel
theorem dX5_dischargeLeaf_24 : decode cX5_dischargeLeaf 24 = .ok (.dup, 1) := by decide +kernel
theorem dX5_dischargeLeaf_25 : decode cX5_dischargeLeaf 25 = .ok (.getfield 56, 3) := by decide +kernel
theorem dX5_dischargeLeaf_28 : decode cX5_dischargeLeaf 28 = .ok (.aload_n 1, 1) := by decide +kernel
theorem dX5_dischargeLeaf_29 : decode cX5_dischargeLeaf 29 = .ok (.getfield 102, 3) := by decide +kernel
theorem dX5_dischargeLeaf_32 : decode cX5_dischargeLeaf 32 = .ok (.iadd, 1) := by decide +kernel
theorem dX5_dischargeLeaf_33 : decode cX5_dischargeLeaf 33 = .ok (.putfield 56, 3) := by decide +kernel
theorem dX5_dischargeLeaf_36 : decode cX5_dischargeLeaf 36 = .ok (.aload_n 0, 1) := by decide +kernel
theorem dX5_dischargeLeaf_37 : decode cX5_dischargeLeaf 37 = .ok (.dup, 1) := by decide +kernel
theorem dX5_dischargeLeaf_38 : decode cX5_dischargeLeaf 38 = .ok (.getfield 62, 3) := by decide +kernel
theorem dX5_dischargeLeaf_41 : decode cX5_dischargeLeaf 41 = .ok (.aload_n 1, 1) := by decide +kernel
theorem dX5_dischargeLeaf_42 : decode cX5_dischargeLeaf 42 = .ok (.getfield 109, 3) := by decide +kernel
theorem dX5_dischargeLeaf_45 : decode cX5_dischargeLeaf 45 = .ok (.iadd, 1) := by decide +kernel
theorem dX5_dischargeLeaf_46 : decode cX5_dischargeLeaf 46 = .ok (.putfield 62, 3) := by decide +kernel
theorem dX5_dischargeLeaf_49 : decode cX5_dischargeLeaf 49 = .ok (.aload_n 1, 1) := by decide +kernel
theorem dX5_dischargeLeaf_50 : decode cX5_dischargeLeaf 50 = .ok (.invokevirtual 112, 3) := by decide +kernel
theorem dX5_dischargeLeaf_53 : decode cX5_dischargeLeaf 53 = .ok (.iload_n 2, 1) := by decide +kernel
theorem dX5_dischargeLeaf_54 : decode cX5_dischargeLeaf 54 = .ok (.ireturn, 1) := by decide +kernel
theorem dX5_discardLeaf_0 : decode cX5_discardLeaf 0 = .ok (.aload_n 1, 1) := by decide +kernel
theorem dX5_discardLeaf_1 : decode cX5_discardLeaf 1 = .ok (.getfield 102, 3) := by decide +kernel
theorem dX5_discardLeaf_4 : decode cX5_discardLeaf 4 = .ok (.istore_n 2, 1) := by decide +kernel
theorem dX5_discardLeaf_5 : decode cX5_discardLeaf 5 = .ok (.aload_n 0, 1) := by decide +kernel
theorem dX5_discardLeaf_6 : decode cX5_discardLeaf 6 = .ok (.dup, 1) := by decide +kernel
theorem dX5_discardLeaf_7 : decode cX5_discardLeaf 7 = .ok (.getfield 59, 3) := by decide +kernel
theorem dX5_discardLeaf_10 : decode cX5_discardLeaf 10 = .ok (.iload_n 2, 1) := by decide +kernel
theorem dX5_discardLeaf_11 : decode cX5_discardLeaf 11 = .ok (.iadd, 1) := by decide +kernel
theorem dX5_discardLeaf_12 : decode cX5_discardLeaf 12 = .ok (.putfield 59, 3) := by decide +kernel
theorem dX5_discardLeaf_15 : decode cX5_discardLeaf 15 = .ok (.aload_n 0, 1) := by decide +kernel
theorem dX5_discardLeaf_16 : decode cX5_discardLeaf 16 = .ok (.dup, 1) := by decide +kernel
theorem dX5_discardLeaf_17 : decode cX5_discardLeaf 17 = .ok (.getfield 62, 3) := by decide +kernel
theorem dX5_discardLeaf_20 : decode cX5_discardLeaf 20 = .ok (.aload_n 1, 1) := by decide +kernel
theorem dX5_discardLeaf_21 : decode cX5_discardLeaf 21 = .ok (.getfield 109, 3) := by decide +kernel
theorem dX5_discardLeaf_24 : decode cX5_discardLeaf 24 = .ok (.iadd, 1) := by decide +kernel
theorem dX5_discardLeaf_25 : decode cX5_discardLeaf 25 = .ok (.putfield 62, 3) := by decide +kernel
theorem dX5_discardLeaf_28 : decode cX5_discardLeaf 28 = .ok (.aload_n 1, 1) := by decide +kernel
theorem dX5_discardLeaf_29 : decode cX5_discardLeaf 29 = .ok (.invokevirtual 112, 3) := by decide +kernel
theorem dX5_discardLeaf_32 : decode cX5_discardLeaf 32 = .ok (.iload_n 2, 1) := by decide +kernel
theorem dX5_discardLeaf_33 : decode cX5_discardLeaf 33 = .ok (.ireturn, 1) := by decide +kernel
theorem dX5_letHoursPass_0 : decode cX5_letHoursPass 0 = .ok (.iconst 0, 1) := by decide +kernel
theorem dX5_letHoursPass_1 : decode cX5_letHoursPass 1 = .ok (.istore_n 2, 1) := by decide +kernel
theorem dX5_letHoursPass_2 : decode cX5_letHoursPass 2 = .ok (.iload_n 2, 1) := by decide +kernel
theorem dX5_letHoursPass_3 : decode cX5_letHoursPass 3 = .ok (.iload_n 1, 1) := by decide +kernel
theorem dX5_letHoursPass_4 : decode cX5_letHoursPass 4 = .ok (.if_icmp .ge 99, 3) := by decide +kernel
theorem dX5_letHoursPass_7 : decode cX5_letHoursPass 7 = .ok (.aload_n 0, 1) := by decide +kernel
theorem dX5_letHoursPass_8 : decode cX5_letHoursPass 8 = .ok (.getfield 12, 3) := by decide +kernel
theorem dX5_letHoursPass_11 : decode cX5_letHoursPass 11 = .ok (.aload_n 0, 1) := by decide +kernel
theorem dX5_letHoursPass_12 : decode cX5_letHoursPass 12 = .ok (.getfield 12, 3) := by decide +kernel
theorem dX5_letHoursPass_15 : decode cX5_letHoursPass 15 = .ok (.getfield 115, 3) := by decide +kernel
theorem dX5_letHoursPass_18 : decode cX5_letHoursPass 18 = .ok (.invokevirtual 118, 3) := by decide +kernel
theorem dX5_letHoursPass_21 : decode cX5_letHoursPass 21 = .ok (.istore_n 3, 1) := by decide +kernel
theorem dX5_letHoursPass_22 : decode cX5_letHoursPass 22 = .ok (.iconst 0, 1) := by decide +kernel
theorem dX5_letHoursPass_23 : decode cX5_letHoursPass 23 = .ok (.istore 4, 2) := by decide +kernel
theorem dX5_letHoursPass_25 : decode cX5_letHoursPass 25 = .ok (.iload 4, 2) := by decide +kernel
theorem dX5_letHoursPass_27 : decode cX5_letHoursPass 27 = .ok (.aload_n 0, 1) := by decide +kernel
theorem dX5_letHoursPass_28 : decode cX5_letHoursPass 28 = .ok (.getfield 40, 3) := by decide +kernel
theorem dX5_letHoursPass_31 : decode cX5_letHoursPass 31 = .ok (.if_icmp .ge 36, 3) := by decide +kernel
theorem dX5_letHoursPass_34 : decode cX5_letHoursPass 34 = .ok (.iload 4, 2) := by decide +kernel
theorem dX5_letHoursPass_36 : decode cX5_letHoursPass 36 = .ok (.bipush 8, 2) := by decide +kernel
theorem dX5_letHoursPass_38 : decode cX5_letHoursPass 38 = .ok (.if_icmp .ge 29, 3) := by decide +kernel
theorem dX5_letHoursPass_41 : decode cX5_letHoursPass 41 = .ok (.aload_n 0, 1) := by decide +kernel
theorem dX5_letHoursPass_42 : decode cX5_letHoursPass 42 = .ok (.dup, 1) := by decide +kernel
theorem dX5_letHoursPass_43 : decode cX5_letHoursPass 43 = .ok (.getfield 68, 3) := by decide +kernel
theorem dX5_letHoursPass_46 : decode cX5_letHoursPass 46 = .ok (.aload_n 0, 1) := by decide +kernel
theorem dX5_letHoursPass_47 : decode cX5_letHoursPass 47 = .ok (.getfield 20, 3) := by decide +kernel
theorem dX5_letHoursPass_50 : decode cX5_letHoursPass 50 = .ok (.iload 4, 2) := by decide +kernel
theorem dX5_letHoursPass_52 : decode cX5_letHoursPass 52 = .ok (.aaload, 1) := by decide +kernel
theorem dX5_letHoursPass_53 : decode cX5_letHoursPass 53 = .ok (.iload_n 3, 1) := by decide +kernel
theorem dX5_letHoursPass_54 : decode cX5_letHoursPass 54 = .ok (.invokevirtual 122, 3) := by decide +kernel
theorem dX5_letHoursPass_57 : decode cX5_letHoursPass 57 = .ok (.iadd, 1) := by decide +kernel
theorem dX5_letHoursPass_58 : decode cX5_letHoursPass 58 = .ok (.putfield 68, 3) := by decide +kernel
theorem dX5_letHoursPass_61 : decode cX5_letHoursPass 61 = .ok (.iinc 4 1, 3) := by decide +kernel
theorem dX5_letHoursPass_64 : decode cX5_letHoursPass 64 = .ok (.goto (-39), 3) := by decide +kernel
theorem dX5_letHoursPass_67 : decode cX5_letHoursPass 67 = .ok (.aload_n 0, 1) := by decide +kernel
theorem dX5_letHoursPass_68 : decode cX5_letHoursPass 68 = .ok (.getfield 12, 3) := by decide +kernel
theorem dX5_letHoursPass_71 : decode cX5_letHoursPass 71 = .ok (.dup, 1) := by decide +kernel
theorem dX5_letHoursPass_72 : decode cX5_letHoursPass 72 = .ok (.getfield 115, 3) := by decide +kernel
theorem dX5_letHoursPass_75 : decode cX5_letHoursPass 75 = .ok (.iconst 1, 1) := by decide +kernel
theorem dX5_letHoursPass_76 : decode cX5_letHoursPass 76 = .ok (.iadd, 1) := by decide +kernel
theorem dX5_letHoursPass_77 : decode cX5_letHoursPass 77 = .ok (.putfield 115, 3) := by decide +kernel
theorem dX5_letHoursPass_80 : decode cX5_letHoursPass 80 = .ok (.aload_n 0, 1) := by decide +kernel
theorem dX5_letHoursPass_81 : decode cX5_letHoursPass 81 = .ok (.getfield 12, 3) := by decide +kernel
theorem dX5_letHoursPass_84 : decode cX5_letHoursPass 84 = .ok (.getfield 115, 3) := by decide +kernel
theorem dX5_letHoursPass_87 : decode cX5_letHoursPass 87 = .ok (.bipush 24, 2) := by decide +kernel
theorem dX5_letHoursPass_89 : decode cX5_letHoursPass 89 = .ok (.irem, 1) := by decide +kernel
theorem dX5_letHoursPass_90 : decode cX5_letHoursPass 90 = .ok (.ifCond .ne 7, 3) := by decide +kernel
theorem dX5_letHoursPass_93 : decode cX5_letHoursPass 93 = .ok (.aload_n 0, 1) := by decide +kernel
theorem dX5_letHoursPass_94 : decode cX5_letHoursPass 94 = .ok (.invokevirtual 125, 3) := by decide +kernel
theorem dX5_letHoursPass_97 : decode cX5_letHoursPass 97 = .ok (.iinc 2 1, 3) := by decide +kernel
theorem dX5_letHoursPass_100 : decode cX5_letHoursPass 100 = .ok (.goto (-98), 3) := by decide +kernel
theorem dX5_letHoursPass_103 : decode cX5_letHoursPass 103 = .ok (.return_, 1) := by decide +kernel
theorem dX5_ageProbes_0 : decode cX5_ageProbes 0 = .ok (.iconst 0, 1) := by decide +kernel
theorem dX5_ageProbes_1 : decode cX5_ageProbes 1 = .ok (.istore_n 1, 1) := by decide +kernel
theorem dX5_ageProbes_2 : decode cX5_ageProbes 2 = .ok (.iload_n 1, 1) := by decide +kernel
theorem dX5_ageProbes_3 : decode cX5_ageProbes 3 = .ok (.aload_n 0, 1) := by decide +kernel
theorem dX5_ageProbes_4 : decode cX5_ageProbes 4 = .ok (.getfield 44, 3) := by decide +kernel
theorem dX5_ageProbes_7 : decode cX5_ageProbes 7 = .ok (.if_icmp .ge 44, 3) := by decide +kernel
theorem dX5_ageProbes_10 : decode cX5_ageProbes 10 = .ok (.iload_n 1, 1) := by decide +kernel
theorem dX5_ageProbes_11 : decode cX5_ageProbes 11 = .ok (.bipush 6, 2) := by decide +kernel
theorem dX5_ageProbes_13 : decode cX5_ageProbes 13 = .ok (.if_icmp .ge 38, 3) := by decide +kernel
theorem dX5_ageProbes_16 : decode cX5_ageProbes 16 = .ok (.aload_n 0, 1) := by decide +kernel
theorem dX5_ageProbes_17 : decode cX5_ageProbes 17 = .ok (.getfield 26, 3) := by decide +kernel
theorem dX5_ageProbes_20 : decode cX5_ageProbes 20 = .ok (.iload_n 1, 1) := by decide +kernel
theorem dX5_ageProbes_21 : decode cX5_ageProbes 21 = .ok (.aaload, 1) := by decide +kernel
theorem dX5_ageProbes_22 : decode cX5_ageProbes 22 = .ok (.getfield 95, 3) := by decide +kernel
theorem dX5_ageProbes_25 : decode cX5_ageProbes 25 = .ok (.bipush 50, 2) := by decide +kernel
theorem dX5_ageProbes_27 : decode cX5_ageProbes 27 = .ok (.if_icmp .ge 18, 3) := by decide +kernel
theorem dX5_ageProbes_30 : decode cX5_ageProbes 30 = .ok (.aload_n 0, 1) := by decide +kernel
theorem dX5_ageProbes_31 : decode cX5_ageProbes 31 = .ok (.getfield 26, 3) := by decide +kernel
theorem dX5_ageProbes_34 : decode cX5_ageProbes 34 = .ok (.iload_n 1, 1) := by decide +kernel
theorem dX5_ageProbes_35 : decode cX5_ageProbes 35 = .ok (.aaload, 1) := by decide +kernel
theorem dX5_ageProbes_36 : decode cX5_ageProbes 36 = .ok (.dup, 1) := by decide +kernel
theorem dX5_ageProbes_37 : decode cX5_ageProbes 37 = .ok (.getfield 95, 3) := by decide +kernel
theorem dX5_ageProbes_40 : decode cX5_ageProbes 40 = .ok (.iconst 1, 1) := by decide +kernel
theorem dX5_ageProbes_41 : decode cX5_ageProbes 41 = .ok (.iadd, 1) := by decide +kernel
theorem dX5_ageProbes_42 : decode cX5_ageProbes 42 = .ok (.putfield 95, 3) := by decide +kernel
theorem dX5_ageProbes_45 : decode cX5_ageProbes 45 = .ok (.iinc 1 1, 3) := by decide +kernel
theorem dX5_ageProbes_48 : decode cX5_ageProbes 48 = .ok (.goto (-46), 3) := by decide +kernel
theorem dX5_ageProbes_51 : decode cX5_ageProbes 51 = .ok (.return_, 1) := by decide +kernel
theorem dX5_isTooDry_0 : decode cX5_isTooDry 0 = .ok (.aload_n 1, 1) := by decide +kernel
theorem dX5_isTooDry_1 : decode cX5_isTooDry 1 = .ok (.getfield 128, 3) := by decide +kernel
theorem dX5_isTooDry_4 : decode cX5_isTooDry 4 = .ok (.aload_n 0, 1) := by decide +kernel
theorem dX5_isTooDry_5 : decode cX5_isTooDry 5 = .ok (.getfield 47, 3) := by decide +kernel
theorem dX5_isTooDry_8 : decode cX5_isTooDry 8 = .ok (.aload_n 0, 1) := by decide +kernel
theorem dX5_isTooDry_9 : decode cX5_isTooDry 9 = .ok (.getfield 50, 3) := by decide +kernel
theorem dX5_isTooDry_12 : decode cX5_isTooDry 12 = .ok (.isub, 1) := by decide +kernel
theorem dX5_isTooDry_13 : decode cX5_isTooDry 13 = .ok (.if_icmp .lt 19, 3) := by decide +kernel
theorem dX5_isTooDry_16 : decode cX5_isTooDry 16 = .ok (.aload_n 1, 1) := by decide +kernel
theorem dX5_isTooDry_17 : decode cX5_isTooDry 17 = .ok (.getfield 131, 3) := by decide +kernel
theorem dX5_isTooDry_20 : decode cX5_isTooDry 20 = .ok (.aload_n 0, 1) := by decide +kernel
theorem dX5_isTooDry_21 : decode cX5_isTooDry 21 = .ok (.getfield 47, 3) := by decide +kernel
theorem dX5_isTooDry_24 : decode cX5_isTooDry 24 = .ok (.aload_n 0, 1) := by decide +kernel
theorem dX5_isTooDry_25 : decode cX5_isTooDry 25 = .ok (.getfield 50, 3) := by decide +kernel
theorem dX5_isTooDry_28 : decode cX5_isTooDry 28 = .ok (.isub, 1) := by decide +kernel
theorem dX5_isTooDry_29 : decode cX5_isTooDry 29 = .ok (.if_icmp .ge 7, 3) := by decide +kernel
theorem dX5_isTooDry_32 : decode cX5_isTooDry 32 = .ok (.iconst 1, 1) := by decide +kernel
theorem dX5_isTooDry_33 : decode cX5_isTooDry 33 = .ok (.goto 4, 3) := by decide +kernel
theorem dX5_isTooDry_36 : decode cX5_isTooDry 36 = .ok (.iconst 0, 1) := by decide +kernel
theorem dX5_isTooDry_37 : decode cX5_isTooDry 37 = .ok (.ireturn, 1) := by decide +kernel
theorem dX5_isReady_0 : decode cX5_isReady 0 = .ok (.aload_n 1, 1) := by decide +kernel
theorem dX5_isReady_1 : decode cX5_isReady 1 = .ok (.invokevirtual 134, 3) := by decide +kernel
theorem dX5_isReady_4 : decode cX5_isReady 4 = .ok (.ifCond .eq 47, 3) := by decide +kernel
theorem dX5_isReady_7 : decode cX5_isReady 7 = .ok (.aload_n 0, 1) := by decide +kernel
theorem dX5_isReady_8 : decode cX5_isReady 8 = .ok (.aload_n 1, 1) := by decide +kernel
theorem dX5_isReady_9 : decode cX5_isReady 9 = .ok (.invokevirtual 138, 3) := by decide +kernel
theorem dX5_isReady_12 : decode cX5_isReady 12 = .ok (.ifCond .ne 39, 3) := by decide +kernel
theorem dX5_isReady_15 : decode cX5_isReady 15 = .ok (.aload_n 1, 1) := by decide +kernel
theorem dX5_isReady_16 : decode cX5_isReady 16 = .ok (.getfield 128, 3) := by decide +kernel
theorem dX5_isReady_19 : decode cX5_isReady 19 = .ok (.aload_n 0, 1) := by decide +kernel
theorem dX5_isReady_20 : decode cX5_isReady 20 = .ok (.getfield 47, 3) := by decide +kernel
theorem dX5_isReady_23 : decode cX5_isReady 23 = .ok (.aload_n 0, 1) := by decide +kernel
theorem dX5_isReady_24 : decode cX5_isReady 24 = .ok (.getfield 50, 3) := by decide +kernel
theorem dX5_isReady_27 : decode cX5_isReady 27 = .ok (.iadd, 1) := by decide +kernel
theorem dX5_isReady_28 : decode cX5_isReady 28 = .ok (.if_icmp .gt 23, 3) := by decide +kernel
theorem dX5_isReady_31 : decode cX5_isReady 31 = .ok (.aload_n 1, 1) := by decide +kernel
theorem dX5_isReady_32 : decode cX5_isReady 32 = .ok (.getfield 131, 3) := by decide +kernel
theorem dX5_isReady_35 : decode cX5_isReady 35 = .ok (.aload_n 0, 1) := by decide +kernel
theorem dX5_isReady_36 : decode cX5_isReady 36 = .ok (.getfield 47, 3) := by decide +kernel
theorem dX5_isReady_39 : decode cX5_isReady 39 = .ok (.aload_n 0, 1) := by decide +kernel
theorem dX5_isReady_40 : decode cX5_isReady 40 = .ok (.getfield 50, 3) := by decide +kernel
theorem dX5_isReady_43 : decode cX5_isReady 43 = .ok (.iadd, 1) := by decide +kernel
theorem dX5_isReady_44 : decode cX5_isReady 44 = .ok (.if_icmp .gt 7, 3) := by decide +kernel
theorem dX5_isReady_47 : decode cX5_isReady 47 = .ok (.iconst 1, 1) := by decide +kernel
theorem dX5_isReady_48 : decode cX5_isReady 48 = .ok (.goto 4, 3) := by decide +kernel
theorem dX5_isReady_51 : decode cX5_isReady 51 = .ok (.iconst 0, 1) := by decide +kernel
theorem dX5_isReady_52 : decode cX5_isReady 52 = .ok (.ireturn, 1) := by decide +kernel
theorem dX5_refusalOf_0 : decode cX5_refusalOf 0 = .ok (.aload_n 1, 1) := by decide +kernel
theorem dX5_refusalOf_1 : decode cX5_refusalOf 1 = .ok (.invokevirtual 134, 3) := by decide +kernel
theorem dX5_refusalOf_4 : decode cX5_refusalOf 4 = .ok (.ifCond .ne 5, 3) := by decide +kernel
theorem dX5_refusalOf_7 : decode cX5_refusalOf 7 = .ok (.iconst 1, 1) := by decide +kernel
theorem dX5_refusalOf_8 : decode cX5_refusalOf 8 = .ok (.ireturn, 1) := by decide +kernel
theorem dX5_refusalOf_9 : decode cX5_refusalOf 9 = .ok (.aload_n 0, 1) := by decide +kernel
theorem dX5_refusalOf_10 : decode cX5_refusalOf 10 = .ok (.aload_n 1, 1) := by decide +kernel
theorem dX5_refusalOf_11 : decode cX5_refusalOf 11 = .ok (.invokevirtual 138, 3) := by decide +kernel
theorem dX5_refusalOf_14 : decode cX5_refusalOf 14 = .ok (.ifCond .eq 5, 3) := by decide +kernel
theorem dX5_refusalOf_17 : decode cX5_refusalOf 17 = .ok (.iconst 2, 1) := by decide +kernel
theorem dX5_refusalOf_18 : decode cX5_refusalOf 18 = .ok (.ireturn, 1) := by decide +kernel
theorem dX5_refusalOf_19 : decode cX5_refusalOf 19 = .ok (.aload_n 0, 1) := by decide +kernel
theorem dX5_refusalOf_20 : decode cX5_refusalOf 20 = .ok (.aload_n 1, 1) := by decide +kernel
theorem dX5_refusalOf_21 : decode cX5_refusalOf 21 = .ok (.invokevirtual 142, 3) := by decide +kernel
theorem dX5_refusalOf_24 : decode cX5_refusalOf 24 = .ok (.ifCond .eq 7, 3) := by decide +kernel
theorem dX5_refusalOf_27 : decode cX5_refusalOf 27 = .ok (.iconst 0, 1) := by decide +kernel
theorem dX5_refusalOf_28 : decode cX5_refusalOf 28 = .ok (.goto 4, 3) := by decide +kernel
theorem dX5_refusalOf_31 : decode cX5_refusalOf 31 = .ok (.iconst 3, 1) := by decide +kernel
theorem dX5_refusalOf_32 : decode cX5_refusalOf 32 = .ok (.ireturn, 1) := by decide +kernel
theorem dX5_setOfReady_0 : decode cX5_setOfReady 0 = .ok (.iconst 0, 1) := by decide +kernel
theorem dX5_setOfReady_1 : decode cX5_setOfReady 1 = .ok (.istore_n 1, 1) := by decide +kernel
theorem dX5_setOfReady_2 : decode cX5_setOfReady 2 = .ok (.iconst 0, 1) := by decide +kernel
theorem dX5_setOfReady_3 : decode cX5_setOfReady 3 = .ok (.istore_n 2, 1) := by decide +kernel
theorem dX5_setOfReady_4 : decode cX5_setOfReady 4 = .ok (.iload_n 2, 1) := by decide +kernel
theorem dX5_setOfReady_5 : decode cX5_setOfReady 5 = .ok (.bipush 8, 2) := by decide +kernel
theorem dX5_setOfReady_7 : decode cX5_setOfReady 7 = .ok (.if_icmp .ge 28, 3) := by decide +kernel
theorem dX5_setOfReady_10 : decode cX5_setOfReady 10 = .ok (.aload_n 0, 1) := by decide +kernel
theorem dX5_setOfReady_11 : decode cX5_setOfReady 11 = .ok (.aload_n 0, 1) := by decide +kernel
theorem dX5_setOfReady_12 : decode cX5_setOfReady 12 = .ok (.getfield 20, 3) := by decide +kernel
theorem dX5_setOfReady_15 : decode cX5_setOfReady 15 = .ok (.iload_n 2, 1) := by decide +kernel
theorem dX5_setOfReady_16 : decode cX5_setOfReady 16 = .ok (.aaload, 1) := by decide +kernel
theorem dX5_setOfReady_17 : decode cX5_setOfReady 17 = .ok (.invokevirtual 142, 3) := by decide +kernel
theorem dX5_setOfReady_20 : decode cX5_setOfReady 20 = .ok (.ifCond .eq 9, 3) := by decide +kernel
theorem dX5_setOfReady_23 : decode cX5_setOfReady 23 = .ok (.iload_n 1, 1) := by decide +kernel
theorem dX5_setOfReady_24 : decode cX5_setOfReady 24 = .ok (.iconst 1, 1) := by decide +kernel
theorem dX5_setOfReady_25 : decode cX5_setOfReady 25 = .ok (.iload_n 2, 1) := by decide +kernel
theorem dX5_setOfReady_26 : decode cX5_setOfReady 26 = .ok (.ishl, 1) := by decide +kernel
theorem dX5_setOfReady_27 : decode cX5_setOfReady 27 = .ok (.ior, 1) := by decide +kernel
theorem dX5_setOfReady_28 : decode cX5_setOfReady 28 = .ok (.istore_n 1, 1) := by decide +kernel
theorem dX5_setOfReady_29 : decode cX5_setOfReady 29 = .ok (.iinc 2 1, 3) := by decide +kernel
theorem dX5_setOfReady_32 : decode cX5_setOfReady 32 = .ok (.goto (-28), 3) := by decide +kernel
theorem dX5_setOfReady_35 : decode cX5_setOfReady 35 = .ok (.iload_n 1, 1) := by decide +kernel
theorem dX5_setOfReady_36 : decode cX5_setOfReady 36 = .ok (.ireturn, 1) := by decide +kernel
theorem dX5_countWithLeaf_0 : decode cX5_countWithLeaf 0 = .ok (.iconst 0, 1) := by decide +kernel
theorem dX5_countWithLeaf_1 : decode cX5_countWithLeaf 1 = .ok (.istore_n 1, 1) := by decide +kernel
theorem dX5_countWithLeaf_2 : decode cX5_countWithLeaf 2 = .ok (.iconst 0, 1) := by decide +kernel
theorem dX5_countWithLeaf_3 : decode cX5_countWithLeaf 3 = .ok (.istore_n 2, 1) := by decide +kernel
theorem dX5_countWithLeaf_4 : decode cX5_countWithLeaf 4 = .ok (.iload_n 2, 1) := by decide +kernel
theorem dX5_countWithLeaf_5 : decode cX5_countWithLeaf 5 = .ok (.bipush 8, 2) := by decide +kernel
theorem dX5_countWithLeaf_7 : decode cX5_countWithLeaf 7 = .ok (.if_icmp .ge 29, 3) := by decide +kernel
theorem dX5_countWithLeaf_10 : decode cX5_countWithLeaf 10 = .ok (.iload_n 1, 1) := by decide +kernel
theorem dX5_countWithLeaf_11 : decode cX5_countWithLeaf 11 = .ok (.aload_n 0, 1) := by decide +kernel
theorem dX5_countWithLeaf_12 : decode cX5_countWithLeaf 12 = .ok (.getfield 20, 3) := by decide +kernel
theorem dX5_countWithLeaf_15 : decode cX5_countWithLeaf 15 = .ok (.iload_n 2, 1) := by decide +kernel
theorem dX5_countWithLeaf_16 : decode cX5_countWithLeaf 16 = .ok (.aaload, 1) := by decide +kernel
theorem dX5_countWithLeaf_17 : decode cX5_countWithLeaf 17 = .ok (.invokevirtual 134, 3) := by decide +kernel
theorem dX5_countWithLeaf_20 : decode cX5_countWithLeaf 20 = .ok (.ifCond .eq 7, 3) := by decide +kernel
theorem dX5_countWithLeaf_23 : decode cX5_countWithLeaf 23 = .ok (.iconst 1, 1) := by decide +kernel
theorem dX5_countWithLeaf_24 : decode cX5_countWithLeaf 24 = .ok (.goto 4, 3) := by decide +kernel
theorem dX5_countWithLeaf_27 : decode cX5_countWithLeaf 27 = .ok (.iconst 0, 1) := by decide +kernel
theorem dX5_countWithLeaf_28 : decode cX5_countWithLeaf 28 = .ok (.iadd, 1) := by decide +kernel
theorem dX5_countWithLeaf_29 : decode cX5_countWithLeaf 29 = .ok (.istore_n 1, 1) := by decide +kernel
theorem dX5_countWithLeaf_30 : decode cX5_countWithLeaf 30 = .ok (.iinc 2 1, 3) := by decide +kernel
theorem dX5_countWithLeaf_33 : decode cX5_countWithLeaf 33 = .ok (.goto (-29), 3) := by decide +kernel
theorem dX5_countWithLeaf_36 : decode cX5_countWithLeaf 36 = .ok (.iload_n 1, 1) := by decide +kernel
theorem dX5_countWithLeaf_37 : decode cX5_countWithLeaf 37 = .ok (.ireturn, 1) := by decide +kernel
theorem dX5_sumOfMoistures_0 : decode cX5_sumOfMoistures 0 = .ok (.iconst 0, 1) := by decide +kernel
theorem dX5_sumOfMoistures_1 : decode cX5_sumOfMoistures 1 = .ok (.istore_n 1, 1) := by decide +kernel
theorem dX5_sumOfMoistures_2 : decode cX5_sumOfMoistures 2 = .ok (.iconst 0, 1) := by decide +kernel
theorem dX5_sumOfMoistures_3 : decode cX5_sumOfMoistures 3 = .ok (.istore_n 2, 1) := by decide +kernel
theorem dX5_sumOfMoistures_4 : decode cX5_sumOfMoistures 4 = .ok (.iload_n 2, 1) := by decide +kernel
theorem dX5_sumOfMoistures_5 : decode cX5_sumOfMoistures 5 = .ok (.bipush 8, 2) := by decide +kernel
theorem dX5_sumOfMoistures_7 : decode cX5_sumOfMoistures 7 = .ok (.if_icmp .ge 31, 3) := by decide +kernel
theorem dX5_sumOfMoistures_10 : decode cX5_sumOfMoistures 10 = .ok (.iload_n 1, 1) := by decide +kernel
theorem dX5_sumOfMoistures_11 : decode cX5_sumOfMoistures 11 = .ok (.aload_n 0, 1) := by decide +kernel
theorem dX5_sumOfMoistures_12 : decode cX5_sumOfMoistures 12 = .ok (.getfield 20, 3) := by decide +kernel
theorem dX5_sumOfMoistures_15 : decode cX5_sumOfMoistures 15 = .ok (.iload_n 2, 1) := by decide +kernel
theorem dX5_sumOfMoistures_16 : decode cX5_sumOfMoistures 16 = .ok (.aaload, 1) := by decide +kernel
theorem dX5_sumOfMoistures_17 : decode cX5_sumOfMoistures 17 = .ok (.getfield 128, 3) := by decide +kernel
theorem dX5_sumOfMoistures_20 : decode cX5_sumOfMoistures 20 = .ok (.aload_n 0, 1) := by decide +kernel
theorem dX5_sumOfMoistures_21 : decode cX5_sumOfMoistures 21 = .ok (.getfield 20, 3) := by decide +kernel
theorem dX5_sumOfMoistures_24 : decode cX5_sumOfMoistures 24 = .ok (.iload_n 2, 1) := by decide +kernel
theorem dX5_sumOfMoistures_25 : decode cX5_sumOfMoistures 25 = .ok (.aaload, 1) := by decide +kernel
theorem dX5_sumOfMoistures_26 : decode cX5_sumOfMoistures 26 = .ok (.getfield 131, 3) := by decide +kernel
theorem dX5_sumOfMoistures_29 : decode cX5_sumOfMoistures 29 = .ok (.iadd, 1) := by decide +kernel
theorem dX5_sumOfMoistures_30 : decode cX5_sumOfMoistures 30 = .ok (.iadd, 1) := by decide +kernel
theorem dX5_sumOfMoistures_31 : decode cX5_sumOfMoistures 31 = .ok (.istore_n 1, 1) := by decide +kernel
theorem dX5_sumOfMoistures_32 : decode cX5_sumOfMoistures 32 = .ok (.iinc 2 1, 3) := by decide +kernel
theorem dX5_sumOfMoistures_35 : decode cX5_sumOfMoistures 35 = .ok (.goto (-31), 3) := by decide +kernel
theorem dX5_sumOfMoistures_38 : decode cX5_sumOfMoistures 38 = .ok (.iload_n 1, 1) := by decide +kernel
theorem dX5_sumOfMoistures_39 : decode cX5_sumOfMoistures 39 = .ok (.ireturn, 1) := by decide +kernel
theorem dX5_readingOf_0 : decode cX5_readingOf 0 = .ok (.aload_n 0, 1) := by decide +kernel
theorem dX5_readingOf_1 : decode cX5_readingOf 1 = .ok (.aload_n 1, 1) := by decide +kernel
theorem dX5_readingOf_2 : decode cX5_readingOf 2 = .ok (.getfield 89, 3) := by decide +kernel
theorem dX5_readingOf_5 : decode cX5_readingOf 5 = .ok (.invokevirtual 81, 3) := by decide +kernel
theorem dX5_readingOf_8 : decode cX5_readingOf 8 = .ok (.astore_n 2, 1) := by decide +kernel
theorem dX5_readingOf_9 : decode cX5_readingOf 9 = .ok (.aload_n 2, 1) := by decide +kernel
theorem dX5_readingOf_10 : decode cX5_readingOf 10 = .ok (.invokevirtual 134, 3) := by decide +kernel
theorem dX5_readingOf_13 : decode cX5_readingOf 13 = .ok (.ifCond .eq 19, 3) := by decide +kernel
theorem dX5_readingOf_16 : decode cX5_readingOf 16 = .ok (.aload_n 2, 1) := by decide +kernel
theorem dX5_readingOf_17 : decode cX5_readingOf 17 = .ok (.aload_n 1, 1) := by decide +kernel
theorem dX5_readingOf_18 : decode cX5_readingOf 18 = .ok (.getfield 92, 3) := by decide +kernel
theorem dX5_readingOf_21 : decode cX5_readingOf 21 = .ok (.invokevirtual 145, 3) := by decide +kernel
theorem dX5_readingOf_24 : decode cX5_readingOf 24 = .ok (.aload_n 1, 1) := by decide +kernel
theorem dX5_readingOf_25 : decode cX5_readingOf 25 = .ok (.getfield 95, 3) := by decide +kernel
theorem dX5_readingOf_28 : decode cX5_readingOf 28 = .ok (.iadd, 1) := by decide +kernel
theorem dX5_readingOf_29 : decode cX5_readingOf 29 = .ok (.goto 4, 3) := by decide +kernel
theorem dX5_readingOf_32 : decode cX5_readingOf 32 = .ok (.iconst (-1), 1) := by decide +kernel
theorem dX5_readingOf_33 : decode cX5_readingOf 33 = .ok (.ireturn, 1) := by decide +kernel
theorem dX5_meanReadingOf_0 : decode cX5_meanReadingOf 0 = .ok (.iconst 0, 1) := by decide +kernel
theorem dX5_meanReadingOf_1 : decode cX5_meanReadingOf 1 = .ok (.istore_n 2, 1) := by decide +kernel
theorem dX5_meanReadingOf_2 : decode cX5_meanReadingOf 2 = .ok (.iconst 0, 1) := by decide +kernel
theorem dX5_meanReadingOf_3 : decode cX5_meanReadingOf 3 = .ok (.istore_n 3, 1) := by decide +kernel
theorem dX5_meanReadingOf_4 : decode cX5_meanReadingOf 4 = .ok (.iconst 0, 1) := by decide +kernel
theorem dX5_meanReadingOf_5 : decode cX5_meanReadingOf 5 = .ok (.istore 4, 2) := by decide +kernel
theorem dX5_meanReadingOf_7 : decode cX5_meanReadingOf 7 = .ok (.iload 4, 2) := by decide +kernel
theorem dX5_meanReadingOf_9 : decode cX5_meanReadingOf 9 = .ok (.aload_n 0, 1) := by decide +kernel
theorem dX5_meanReadingOf_10 : decode cX5_meanReadingOf 10 = .ok (.getfield 44, 3) := by decide +kernel
theorem dX5_meanReadingOf_13 : decode cX5_meanReadingOf 13 = .ok (.if_icmp .ge 47, 3) := by decide +kernel
theorem dX5_meanReadingOf_16 : decode cX5_meanReadingOf 16 = .ok (.iload 4, 2) := by decide +kernel
theorem dX5_meanReadingOf_18 : decode cX5_meanReadingOf 18 = .ok (.bipush 6, 2) := by decide +kernel
theorem dX5_meanReadingOf_20 : decode cX5_meanReadingOf 20 = .ok (.if_icmp .ge 40, 3) := by decide +kernel
theorem dX5_meanReadingOf_23 : decode cX5_meanReadingOf 23 = .ok (.aload_n 0, 1) := by decide +kernel
theorem dX5_meanReadingOf_24 : decode cX5_meanReadingOf 24 = .ok (.getfield 26, 3) := by decide +kernel
theorem dX5_meanReadingOf_27 : decode cX5_meanReadingOf 27 = .ok (.iload 4, 2) := by decide +kernel
theorem dX5_meanReadingOf_29 : decode cX5_meanReadingOf 29 = .ok (.aaload, 1) := by decide +kernel
theorem dX5_meanReadingOf_30 : decode cX5_meanReadingOf 30 = .ok (.getfield 89, 3) := by decide +kernel
theorem dX5_meanReadingOf_33 : decode cX5_meanReadingOf 33 = .ok (.iload_n 1, 1) := by decide +kernel
theorem dX5_meanReadingOf_34 : decode cX5_meanReadingOf 34 = .ok (.if_icmp .ne 20, 3) := by decide +kernel
theorem dX5_meanReadingOf_37 : decode cX5_meanReadingOf 37 = .ok (.iload_n 2, 1) := by decide +kernel
theorem dX5_meanReadingOf_38 : decode cX5_meanReadingOf 38 = .ok (.aload_n 0, 1) := by decide +kernel
theorem dX5_meanReadingOf_39 : decode cX5_meanReadingOf 39 = .ok (.aload_n 0, 1) := by decide +kernel
theorem dX5_meanReadingOf_40 : decode cX5_meanReadingOf 40 = .ok (.getfield 26, 3) := by decide +kernel
theorem dX5_meanReadingOf_43 : decode cX5_meanReadingOf 43 = .ok (.iload 4, 2) := by decide +kernel
theorem dX5_meanReadingOf_45 : decode cX5_meanReadingOf 45 = .ok (.aaload, 1) := by decide +kernel
theorem dX5_meanReadingOf_46 : decode cX5_meanReadingOf 46 = .ok (.invokevirtual 148, 3) := by decide +kernel
theorem dX5_meanReadingOf_49 : decode cX5_meanReadingOf 49 = .ok (.iadd, 1) := by decide +kernel
theorem dX5_meanReadingOf_50 : decode cX5_meanReadingOf 50 = .ok (.istore_n 2, 1) := by decide +kernel
theorem dX5_meanReadingOf_51 : decode cX5_meanReadingOf 51 = .ok (.iinc 3 1, 3) := by decide +kernel
theorem dX5_meanReadingOf_54 : decode cX5_meanReadingOf 54 = .ok (.iinc 4 1, 3) := by decide +kernel
theorem dX5_meanReadingOf_57 : decode cX5_meanReadingOf 57 = .ok (.goto (-50), 3) := by decide +kernel
theorem dX5_meanReadingOf_60 : decode cX5_meanReadingOf 60 = .ok (.iload_n 3, 1) := by decide +kernel
theorem dX5_meanReadingOf_61 : decode cX5_meanReadingOf 61 = .ok (.ifCond .eq 14, 3) := by decide +kernel
theorem dX5_meanReadingOf_64 : decode cX5_meanReadingOf 64 = .ok (.aload_n 0, 1) := by decide +kernel
theorem dX5_meanReadingOf_65 : decode cX5_meanReadingOf 65 = .ok (.iload_n 1, 1) := by decide +kernel
theorem dX5_meanReadingOf_66 : decode cX5_meanReadingOf 66 = .ok (.invokevirtual 81, 3) := by decide +kernel
theorem dX5_meanReadingOf_69 : decode cX5_meanReadingOf 69 = .ok (.invokevirtual 134, 3) := by decide +kernel
theorem dX5_meanReadingOf_72 : decode cX5_meanReadingOf 72 = .ok (.ifCond .ne 7, 3) := by decide +kernel
theorem dX5_meanReadingOf_75 : decode cX5_meanReadingOf 75 = .ok (.iconst (-1), 1) := by decide +kernel
theorem dX5_meanReadingOf_76 : decode cX5_meanReadingOf 76 = .ok (.goto 8, 3) := by decide +kernel
theorem dX5_meanReadingOf_79 : decode cX5_meanReadingOf 79 = .ok (.iload_n 2, 1) := by decide +kernel
theorem dX5_meanReadingOf_80 : decode cX5_meanReadingOf 80 = .ok (.iload_n 3, 1) := by decide +kernel
theorem dX5_meanReadingOf_81 : decode cX5_meanReadingOf 81 = .ok (.invokestatic 152, 3) := by decide +kernel
theorem dX5_meanReadingOf_84 : decode cX5_meanReadingOf 84 = .ok (.ireturn, 1) := by decide +kernel
theorem dX5_countViolations_0 : decode cX5_countViolations 0 = .ok (.aload_n 0, 1) := by decide +kernel
theorem dX5_countViolations_1 : decode cX5_countViolations 1 = .ok (.getfield 56, 3) := by decide +kernel
theorem dX5_countViolations_4 : decode cX5_countViolations 4 = .ok (.aload_n 0, 1) := by decide +kernel
theorem dX5_countViolations_5 : decode cX5_countViolations 5 = .ok (.getfield 59, 3) := by decide +kernel
theorem dX5_countViolations_8 : decode cX5_countViolations 8 = .ok (.iadd, 1) := by decide +kernel
theorem dX5_countViolations_9 : decode cX5_countViolations 9 = .ok (.istore_n 1, 1) := by decide +kernel
theorem dX5_countViolations_10 : decode cX5_countViolations 10 = .ok (.aload_n 0, 1) := by decide +kernel
theorem dX5_countViolations_11 : decode cX5_countViolations 11 = .ok (.getfield 62, 3) := by decide +kernel
theorem dX5_countViolations_14 : decode cX5_countViolations 14 = .ok (.aload_n 0, 1) := by decide +kernel
theorem dX5_countViolations_15 : decode cX5_countViolations 15 = .ok (.getfield 68, 3) := by decide +kernel
theorem dX5_countViolations_18 : decode cX5_countViolations 18 = .ok (.iadd, 1) := by decide +kernel
theorem dX5_countViolations_19 : decode cX5_countViolations 19 = .ok (.istore_n 2, 1) := by decide +kernel
theorem dX5_countViolations_20 : decode cX5_countViolations 20 = .ok (.iconst 0, 1) := by decide +kernel
theorem dX5_countViolations_21 : decode cX5_countViolations 21 = .ok (.istore_n 3, 1) := by decide +kernel
theorem dX5_countViolations_22 : decode cX5_countViolations 22 = .ok (.iconst 0, 1) := by decide +kernel
theorem dX5_countViolations_23 : decode cX5_countViolations 23 = .ok (.istore 4, 2) := by decide +kernel
theorem dX5_countViolations_25 : decode cX5_countViolations 25 = .ok (.iload 4, 2) := by decide +kernel
theorem dX5_countViolations_27 : decode cX5_countViolations 27 = .ok (.bipush 8, 2) := by decide +kernel
theorem dX5_countViolations_29 : decode cX5_countViolations 29 = .ok (.if_icmp .ge 48, 3) := by decide +kernel
theorem dX5_countViolations_32 : decode cX5_countViolations 32 = .ok (.iload_n 1, 1) := by decide +kernel
theorem dX5_countViolations_33 : decode cX5_countViolations 33 = .ok (.aload_n 0, 1) := by decide +kernel
theorem dX5_countViolations_34 : decode cX5_countViolations 34 = .ok (.getfield 20, 3) := by decide +kernel
theorem dX5_countViolations_37 : decode cX5_countViolations 37 = .ok (.iload 4, 2) := by decide +kernel
theorem dX5_countViolations_39 : decode cX5_countViolations 39 = .ok (.aaload, 1) := by decide +kernel
theorem dX5_countViolations_40 : decode cX5_countViolations 40 = .ok (.getfield 102, 3) := by decide +kernel
theorem dX5_countViolations_43 : decode cX5_countViolations 43 = .ok (.iadd, 1) := by decide +kernel
theorem dX5_countViolations_44 : decode cX5_countViolations 44 = .ok (.istore_n 1, 1) := by decide +kernel
theorem dX5_countViolations_45 : decode cX5_countViolations 45 = .ok (.iload_n 2, 1) := by decide +kernel
theorem dX5_countViolations_46 : decode cX5_countViolations 46 = .ok (.aload_n 0, 1) := by decide +kernel
theorem dX5_countViolations_47 : decode cX5_countViolations 47 = .ok (.getfield 20, 3) := by decide +kernel
theorem dX5_countViolations_50 : decode cX5_countViolations 50 = .ok (.iload 4, 2) := by decide +kernel
theorem dX5_countViolations_52 : decode cX5_countViolations 52 = .ok (.aaload, 1) := by decide +kernel
theorem dX5_countViolations_53 : decode cX5_countViolations 53 = .ok (.getfield 109, 3) := by decide +kernel
theorem dX5_countViolations_56 : decode cX5_countViolations 56 = .ok (.iadd, 1) := by decide +kernel
theorem dX5_countViolations_57 : decode cX5_countViolations 57 = .ok (.istore_n 2, 1) := by decide +kernel
theorem dX5_countViolations_58 : decode cX5_countViolations 58 = .ok (.iload_n 3, 1) := by decide +kernel
theorem dX5_countViolations_59 : decode cX5_countViolations 59 = .ok (.aload_n 0, 1) := by decide +kernel
theorem dX5_countViolations_60 : decode cX5_countViolations 60 = .ok (.getfield 20, 3) := by decide +kernel
theorem dX5_countViolations_63 : decode cX5_countViolations 63 = .ok (.iload 4, 2) := by decide +kernel
theorem dX5_countViolations_65 : decode cX5_countViolations 65 = .ok (.aaload, 1) := by decide +kernel
theorem dX5_countViolations_66 : decode cX5_countViolations 66 = .ok (.invokevirtual 158, 3) := by decide +kernel
theorem dX5_countViolations_69 : decode cX5_countViolations 69 = .ok (.iadd, 1) := by decide +kernel
theorem dX5_countViolations_70 : decode cX5_countViolations 70 = .ok (.istore_n 3, 1) := by decide +kernel
theorem dX5_countViolations_71 : decode cX5_countViolations 71 = .ok (.iinc 4 1, 3) := by decide +kernel
theorem dX5_countViolations_74 : decode cX5_countViolations 74 = .ok (.goto (-49), 3) := by decide +kernel
theorem dX5_countViolations_77 : decode cX5_countViolations 77 = .ok (.iload_n 3, 1) := by decide +kernel
theorem dX5_countViolations_78 : decode cX5_countViolations 78 = .ok (.aload_n 0, 1) := by decide +kernel
theorem dX5_countViolations_79 : decode cX5_countViolations 79 = .ok (.getfield 53, 3) := by decide +kernel
theorem dX5_countViolations_82 : decode cX5_countViolations 82 = .ok (.iload_n 1, 1) := by decide +kernel
theorem dX5_countViolations_83 : decode cX5_countViolations 83 = .ok (.isub, 1) := by decide +kernel
theorem dX5_countViolations_84 : decode cX5_countViolations 84 = .ok (.invokestatic 161, 3) := by decide +kernel
theorem dX5_countViolations_87 : decode cX5_countViolations 87 = .ok (.iadd, 1) := by decide +kernel
theorem dX5_countViolations_88 : decode cX5_countViolations 88 = .ok (.istore_n 3, 1) := by decide +kernel
theorem dX5_countViolations_89 : decode cX5_countViolations 89 = .ok (.iload_n 3, 1) := by decide +kernel
theorem dX5_countViolations_90 : decode cX5_countViolations 90 = .ok (.aload_n 0, 1) := by decide +kernel
theorem dX5_countViolations_91 : decode cX5_countViolations 91 = .ok (.getfield 53, 3) := by decide +kernel
theorem dX5_countViolations_94 : decode cX5_countViolations 94 = .ok (.sipush 2000, 3) := by decide +kernel
theorem dX5_countViolations_97 : decode cX5_countViolations 97 = .ok (.imul, 1) := by decide +kernel
theorem dX5_countViolations_98 : decode cX5_countViolations 98 = .ok (.iload_n 2, 1) := by decide +kernel
theorem dX5_countViolations_99 : decode cX5_countViolations 99 = .ok (.isub, 1) := by decide +kernel
theorem dX5_countViolations_100 : decode cX5_countViolations 100 = .ok (.invokestatic 161, 3) := by decide +kernel
theorem dX5_countViolations_103 : decode cX5_countViolations 103 = .ok (.iadd, 1) := by decide +kernel
theorem dX5_countViolations_104 : decode cX5_countViolations 104 = .ok (.istore_n 3, 1) := by decide +kernel
theorem dX5_countViolations_105 : decode cX5_countViolations 105 = .ok (.iload_n 3, 1) := by decide +kernel
theorem dX5_countViolations_106 : decode cX5_countViolations 106 = .ok (.ireturn, 1) := by decide +kernel
theorem dX6_init_0 : decode cX6_init 0 = .ok (.aload_n 0, 1) := by decide +kernel
theorem dX6_init_1 : decode cX6_init 1 = .ok (.invokespecial 1, 3) := by decide +kernel
theorem dX6_init_4 : decode cX6_init 4 = .ok (.return_, 1) := by decide +kernel
theorem dX6_become_0 : decode cX6_become 0 = .ok (.aload_n 0, 1) := by decide +kernel
theorem dX6_become_1 : decode cX6_become 1 = .ok (.aload_n 1, 1) := by decide +kernel
theorem dX6_become_2 : decode cX6_become 2 = .ok (.getfield 7, 3) := by decide +kernel
theorem dX6_become_5 : decode cX6_become 5 = .ok (.putfield 7, 3) := by decide +kernel
theorem dX6_become_8 : decode cX6_become 8 = .ok (.aload_n 0, 1) := by decide +kernel
theorem dX6_become_9 : decode cX6_become 9 = .ok (.aload_n 1, 1) := by decide +kernel
theorem dX6_become_10 : decode cX6_become 10 = .ok (.getfield 13, 3) := by decide +kernel
theorem dX6_become_13 : decode cX6_become 13 = .ok (.putfield 13, 3) := by decide +kernel
theorem dX6_become_16 : decode cX6_become 16 = .ok (.aload_n 0, 1) := by decide +kernel
theorem dX6_become_17 : decode cX6_become 17 = .ok (.aload_n 1, 1) := by decide +kernel
theorem dX6_become_18 : decode cX6_become 18 = .ok (.getfield 16, 3) := by decide +kernel
theorem dX6_become_21 : decode cX6_become 21 = .ok (.putfield 16, 3) := by decide +kernel
theorem dX6_become_24 : decode cX6_become 24 = .ok (.return_, 1) := by decide +kernel
theorem dX7_init_0 : decode cX7_init 0 = .ok (.aload_n 0, 1) := by decide +kernel
theorem dX7_init_1 : decode cX7_init 1 = .ok (.invokespecial 3, 3) := by decide +kernel
theorem dX7_init_4 : decode cX7_init 4 = .ok (.aload_n 0, 1) := by decide +kernel
theorem dX7_init_5 : decode cX7_init 5 = .ok (.bipush 88, 2) := by decide +kernel
theorem dX7_init_7 : decode cX7_init 7 = .ok (.newarray .byte, 2) := by decide +kernel
theorem dX7_init_9 : decode cX7_init 9 = .ok (.putfield 11, 3) := by decide +kernel
theorem dX7_init_12 : decode cX7_init 12 = .ok (.return_, 1) := by decide +kernel
theorem dX7_writeAll_0 : decode cX7_writeAll 0 = .ok (.aload_n 0, 1) := by decide +kernel
theorem dX7_writeAll_1 : decode cX7_writeAll 1 = .ok (.iconst 0, 1) := by decide +kernel
theorem dX7_writeAll_2 : decode cX7_writeAll 2 = .ok (.putfield 15, 3) := by decide +kernel
theorem dX7_writeAll_5 : decode cX7_writeAll 5 = .ok (.iconst 0, 1) := by decide +kernel
theorem dX7_writeAll_6 : decode cX7_writeAll 6 = .ok (.istore_n 2, 1) := by decide +kernel
theorem dX7_writeAll_7 : decode cX7_writeAll 7 = .ok (.iload_n 2, 1) := by decide +kernel
theorem dX7_writeAll_8 : decode cX7_writeAll 8 = .ok (.aload_n 1, 1) := by decide +kernel
theorem dX7_writeAll_9 : decode cX7_writeAll 9 = .ok (.getfield 19, 3) := by decide +kernel
theorem dX7_writeAll_12 : decode cX7_writeAll 12 = .ok (.if_icmp .ge 37, 3) := by decide +kernel
theorem dX7_writeAll_15 : decode cX7_writeAll 15 = .ok (.iload_n 2, 1) := by decide +kernel
theorem dX7_writeAll_16 : decode cX7_writeAll 16 = .ok (.ifCond .le 9, 3) := by decide +kernel
theorem dX7_writeAll_19 : decode cX7_writeAll 19 = .ok (.aload_n 0, 1) := by decide +kernel
theorem dX7_writeAll_20 : decode cX7_writeAll 20 = .ok (.bipush 32, 2) := by decide +kernel
theorem dX7_writeAll_22 : decode cX7_writeAll 22 = .ok (.invokevirtual 24, 3) := by decide +kernel
theorem dX7_writeAll_25 : decode cX7_writeAll 25 = .ok (.aload_n 0, 1) := by decide +kernel
theorem dX7_writeAll_26 : decode cX7_writeAll 26 = .ok (.aload_n 1, 1) := by decide +kernel
theorem dX7_writeAll_27 : decode cX7_writeAll 27 = .ok (.iload_n 2, 1) := by decide +kernel
theorem dX7_writeAll_28 : decode cX7_writeAll 28 = .ok (.invokevirtual 28, 3) := by decide +kernel
theorem dX7_writeAll_31 : decode cX7_writeAll 31 = .ok (.aload_n 1, 1) := by decide +kernel
theorem dX7_writeAll_32 : decode cX7_writeAll 32 = .ok (.aload_n 1, 1) := by decide +kernel
theorem dX7_writeAll_33 : decode cX7_writeAll 33 = .ok (.iload_n 2, 1) := by decide +kernel
theorem dX7_writeAll_34 : decode cX7_writeAll 34 = .ok (.invokevirtual 28, 3) := by decide +kernel
theorem dX7_writeAll_37 : decode cX7_writeAll 37 = .ok (.invokevirtual 32, 3) := by decide +kernel
theorem dX7_writeAll_40 : decode cX7_writeAll 40 = .ok (.invokevirtual 36, 3) := by decide +kernel
theorem dX7_writeAll_43 : decode cX7_writeAll 43 = .ok (.iinc 2 1, 3) := by decide +kernel
theorem dX7_writeAll_46 : decode cX7_writeAll 46 = .ok (.goto (-39), 3) := by decide +kernel
theorem dX7_writeAll_49 : decode cX7_writeAll 49 = .ok (.return_, 1) := by decide +kernel
theorem dX7_writeTrough_0 : decode cX7_writeTrough 0 = .ok (.aload_n 0, 1) := by decide +kernel
theorem dX7_writeTrough_1 : decode cX7_writeTrough 1 = .ok (.aload_n 1, 1) := by decide +kernel
theorem dX7_writeTrough_2 : decode cX7_writeTrough 2 = .ok (.getfield 40, 3) := by decide +kernel
theorem dX7_writeTrough_5 : decode cX7_writeTrough 5 = .ok (.invokevirtual 45, 3) := by decide +kernel
theorem dX7_writeTrough_8 : decode cX7_writeTrough 8 = .ok (.aload_n 0, 1) := by decide +kernel
theorem dX7_writeTrough_9 : decode cX7_writeTrough 9 = .ok (.aload_n 1, 1) := by decide +kernel
theorem dX7_writeTrough_10 : decode cX7_writeTrough 10 = .ok (.getfield 48, 3) := by decide +kernel
theorem dX7_writeTrough_13 : decode cX7_writeTrough 13 = .ok (.ifCond .eq 8, 3) := by decide +kernel
theorem dX7_writeTrough_16 : decode cX7_writeTrough 16 = .ok (.bipush 117, 2) := by decide +kernel
theorem dX7_writeTrough_18 : decode cX7_writeTrough 18 = .ok (.goto 5, 3) := by decide +kernel
theorem dX7_writeTrough_21 : decode cX7_writeTrough 21 = .ok (.bipush 100, 2) := by decide +kernel
theorem dX7_writeTrough_23 : decode cX7_writeTrough 23 = .ok (.invokevirtual 24, 3) := by decide +kernel
theorem dX7_writeTrough_26 : decode cX7_writeTrough 26 = .ok (.aload_n 1, 1) := by decide +kernel
theorem dX7_writeTrough_27 : decode cX7_writeTrough 27 = .ok (.invokevirtual 52, 3) := by decide +kernel
theorem dX7_writeTrough_30 : decode cX7_writeTrough 30 = .ok (.ifCond .eq 25, 3) := by decide +kernel
theorem dX7_writeTrough_33 : decode cX7_writeTrough 33 = .ok (.aload_n 0, 1) := by decide +kernel
theorem dX7_writeTrough_34 : decode cX7_writeTrough 34 = .ok (.aload_n 1, 1) := by decide +kernel
theorem dX7_writeTrough_35 : decode cX7_writeTrough 35 = .ok (.getfield 56, 3) := by decide +kernel
theorem dX7_writeTrough_38 : decode cX7_writeTrough 38 = .ok (.invokevirtual 45, 3) := by decide +kernel
theorem dX7_writeTrough_41 : decode cX7_writeTrough 41 = .ok (.aload_n 0, 1) := by decide +kernel
theorem dX7_writeTrough_42 : decode cX7_writeTrough 42 = .ok (.bipush 47, 2) := by decide +kernel
theorem dX7_writeTrough_44 : decode cX7_writeTrough 44 = .ok (.invokevirtual 24, 3) := by decide +kernel
theorem dX7_writeTrough_47 : decode cX7_writeTrough 47 = .ok (.aload_n 0, 1) := by decide +kernel
theorem dX7_writeTrough_48 : decode cX7_writeTrough 48 = .ok (.aload_n 1, 1) := by decide +kernel
theorem dX7_writeTrough_49 : decode cX7_writeTrough 49 = .ok (.getfield 59, 3) := by decide +kernel
theorem dX7_writeTrough_52 : decode cX7_writeTrough 52 = .ok (.invokevirtual 45, 3) := by decide +kernel
theorem dX7_writeTrough_55 : decode cX7_writeTrough 55 = .ok (.iload_n 2, 1) := by decide +kernel
theorem dX7_writeTrough_56 : decode cX7_writeTrough 56 = .ok (.ifCond .eq 9, 3) := by decide +kernel
theorem dX7_writeTrough_59 : decode cX7_writeTrough 59 = .ok (.aload_n 0, 1) := by decide +kernel
theorem dX7_writeTrough_60 : decode cX7_writeTrough 60 = .ok (.bipush 33, 2) := by decide +kernel
theorem dX7_writeTrough_62 : decode cX7_writeTrough 62 = .ok (.invokevirtual 24, 3) := by decide +kernel
theorem dX7_writeTrough_65 : decode cX7_writeTrough 65 = .ok (.return_, 1) := by decide +kernel
theorem dX7_putNumber_0 : decode cX7_putNumber 0 = .ok (.iload_n 1, 1) := by decide +kernel
theorem dX7_putNumber_1 : decode cX7_putNumber 1 = .ok (.bipush 100, 2) := by decide +kernel
theorem dX7_putNumber_3 : decode cX7_putNumber 3 = .ok (.if_icmp .lt 17, 3) := by decide +kernel
theorem dX7_putNumber_6 : decode cX7_putNumber 6 = .ok (.aload_n 0, 1) := by decide +kernel
theorem dX7_putNumber_7 : decode cX7_putNumber 7 = .ok (.bipush 48, 2) := by decide +kernel
theorem dX7_putNumber_9 : decode cX7_putNumber 9 = .ok (.iload_n 1, 1) := by decide +kernel
theorem dX7_putNumber_10 : decode cX7_putNumber 10 = .ok (.bipush 100, 2) := by decide +kernel
theorem dX7_putNumber_12 : decode cX7_putNumber 12 = .ok (.idiv, 1) := by decide +kernel
theorem dX7_putNumber_13 : decode cX7_putNumber 13 = .ok (.bipush 10, 2) := by decide +kernel
theorem dX7_putNumber_15 : decode cX7_putNumber 15 = .ok (.irem, 1) := by decide +kernel
theorem dX7_putNumber_16 : decode cX7_putNumber 16 = .ok (.iadd, 1) := by decide +kernel
theorem dX7_putNumber_17 : decode cX7_putNumber 17 = .ok (.invokevirtual 24, 3) := by decide +kernel
theorem dX7_putNumber_20 : decode cX7_putNumber 20 = .ok (.iload_n 1, 1) := by decide +kernel
theorem dX7_putNumber_21 : decode cX7_putNumber 21 = .ok (.bipush 10, 2) := by decide +kernel
theorem dX7_putNumber_23 : decode cX7_putNumber 23 = .ok (.if_icmp .lt 17, 3) := by decide +kernel
theorem dX7_putNumber_26 : decode cX7_putNumber 26 = .ok (.aload_n 0, 1) := by decide +kernel
theorem dX7_putNumber_27 : decode cX7_putNumber 27 = .ok (.bipush 48, 2) := by decide +kernel
theorem dX7_putNumber_29 : decode cX7_putNumber 29 = .ok (.iload_n 1, 1) := by decide +kernel
theorem dX7_putNumber_30 : decode cX7_putNumber 30 = .ok (.bipush 10, 2) := by decide +kernel
theorem dX7_putNumber_32 : decode cX7_putNumber 32 = .ok (.idiv, 1) := by decide +kernel
theorem dX7_putNumber_33 : decode cX7_putNumber 33 = .ok (.bipush 10, 2) := by decide +kernel
theorem dX7_putNumber_35 : decode cX7_putNumber 35 = .ok (.irem, 1) := by decide +kernel
theorem dX7_putNumber_36 : decode cX7_putNumber 36 = .ok (.iadd, 1) := by decide +kernel
theorem dX7_putNumber_37 : decode cX7_putNumber 37 = .ok (.invokevirtual 24, 3) := by decide +kernel
theorem dX7_putNumber_40 : decode cX7_putNumber 40 = .ok (.aload_n 0, 1) := by decide +kernel
theorem dX7_putNumber_41 : decode cX7_putNumber 41 = .ok (.bipush 48, 2) := by decide +kernel
theorem dX7_putNumber_43 : decode cX7_putNumber 43 = .ok (.iload_n 1, 1) := by decide +kernel
theorem dX7_putNumber_44 : decode cX7_putNumber 44 = .ok (.bipush 10, 2) := by decide +kernel
theorem dX7_putNumber_46 : decode cX7_putNumber 46 = .ok (.irem, 1) := by decide +kernel
theorem dX7_putNumber_47 : decode cX7_putNumber 47 = .ok (.iadd, 1) := by decide +kernel
theorem dX7_putNumber_48 : decode cX7_putNumber 48 = .ok (.invokevirtual 24, 3) := by decide +kernel
theorem dX7_putNumber_51 : decode cX7_putNumber 51 = .ok (.return_, 1) := by decide +kernel
theorem dX7_put_0 : decode cX7_put 0 = .ok (.aload_n 0, 1) := by decide +kernel
theorem dX7_put_1 : decode cX7_put 1 = .ok (.getfield 15, 3) := by decide +kernel
theorem dX7_put_4 : decode cX7_put 4 = .ok (.ifCond .lt 33, 3) := by decide +kernel
theorem dX7_put_7 : decode cX7_put 7 = .ok (.aload_n 0, 1) := by decide +kernel
theorem dX7_put_8 : decode cX7_put 8 = .ok (.getfield 15, 3) := by decide +kernel
theorem dX7_put_11 : decode cX7_put 11 = .ok (.bipush 88, 2) := by decide +kernel
theorem dX7_put_13 : decode cX7_put 13 = .ok (.if_icmp .ge 24, 3) := by decide +kernel
theorem dX7_put_16 : decode cX7_put 16 = .ok (.aload_n 0, 1) := by decide +kernel
theorem dX7_put_17 : decode cX7_put 17 = .ok (.getfield 11, 3) := by decide +kernel
theorem dX7_put_20 : decode cX7_put 20 = .ok (.aload_n 0, 1) := by decide +kernel
theorem dX7_put_21 : decode cX7_put 21 = .ok (.getfield 15, 3) := by decide +kernel
theorem dX7_put_24 : decode cX7_put 24 = .ok (.iload_n 1, 1) := by decide +kernel
theorem dX7_put_25 : decode cX7_put 25 = .ok (.i2b, 1) := by decide +kernel
theorem dX7_put_26 : decode cX7_put 26 = .ok (.bastore, 1) := by decide +kernel
theorem dX7_put_27 : decode cX7_put 27 = .ok (.aload_n 0, 1) := by decide +kernel
theorem dX7_put_28 : decode cX7_put 28 = .ok (.dup, 1) := by decide +kernel
theorem dX7_put_29 : decode cX7_put 29 = .ok (.getfield 15, 3) := by decide +kernel
theorem dX7_put_32 : decode cX7_put 32 = .ok (.iconst 1, 1) := by decide +kernel
theorem dX7_put_33 : decode cX7_put 33 = .ok (.iadd, 1) := by decide +kernel
theorem dX7_put_34 : decode cX7_put 34 = .ok (.putfield 15, 3) := by decide +kernel
theorem dX7_put_37 : decode cX7_put 37 = .ok (.return_, 1) := by decide +kernel
theorem dX7_byteAt_0 : decode cX7_byteAt 0 = .ok (.iload_n 1, 1) := by decide +kernel
theorem dX7_byteAt_1 : decode cX7_byteAt 1 = .ok (.ifCond .lt 26, 3) := by decide +kernel
theorem dX7_byteAt_4 : decode cX7_byteAt 4 = .ok (.iload_n 1, 1) := by decide +kernel
theorem dX7_byteAt_5 : decode cX7_byteAt 5 = .ok (.aload_n 0, 1) := by decide +kernel
theorem dX7_byteAt_6 : decode cX7_byteAt 6 = .ok (.getfield 15, 3) := by decide +kernel
theorem dX7_byteAt_9 : decode cX7_byteAt 9 = .ok (.if_icmp .ge 18, 3) := by decide +kernel
theorem dX7_byteAt_12 : decode cX7_byteAt 12 = .ok (.iload_n 1, 1) := by decide +kernel
theorem dX7_byteAt_13 : decode cX7_byteAt 13 = .ok (.bipush 88, 2) := by decide +kernel
theorem dX7_byteAt_15 : decode cX7_byteAt 15 = .ok (.if_icmp .ge 12, 3) := by decide +kernel
theorem dX7_byteAt_18 : decode cX7_byteAt 18 = .ok (.aload_n 0, 1) := by decide +kernel
theorem dX7_byteAt_19 : decode cX7_byteAt 19 = .ok (.getfield 11, 3) := by decide +kernel
theorem dX7_byteAt_22 : decode cX7_byteAt 22 = .ok (.iload_n 1, 1) := by decide +kernel
theorem dX7_byteAt_23 : decode cX7_byteAt 23 = .ok (.baload, 1) := by decide +kernel
theorem dX7_byteAt_24 : decode cX7_byteAt 24 = .ok (.goto 4, 3) := by decide +kernel
theorem dX7_byteAt_27 : decode cX7_byteAt 27 = .ok (.iconst (-1), 1) := by decide +kernel
theorem dX7_byteAt_28 : decode cX7_byteAt 28 = .ok (.ireturn, 1) := by decide +kernel
theorem dX8_init_0 : decode cX8_init 0 = .ok (.aload_n 0, 1) := by decide +kernel
theorem dX8_init_1 : decode cX8_init 1 = .ok (.invokespecial 3, 3) := by decide +kernel
theorem dX8_init_4 : decode cX8_init 4 = .ok (.aload_n 0, 1) := by decide +kernel
theorem dX8_init_5 : decode cX8_init 5 = .ok (.new 9, 3) := by decide +kernel
theorem dX8_init_8 : decode cX8_init 8 = .ok (.dup, 1) := by decide +kernel
theorem dX8_init_9 : decode cX8_init 9 = .ok (.invokespecial 11, 3) := by decide +kernel
theorem dX8_init_12 : decode cX8_init 12 = .ok (.putfield 12, 3) := by decide +kernel
theorem dX8_init_15 : decode cX8_init 15 = .ok (.aload_n 0, 1) := by decide +kernel
theorem dX8_init_16 : decode cX8_init 16 = .ok (.new 18, 3) := by decide +kernel
theorem dX8_init_19 : decode cX8_init 19 = .ok (.dup, 1) := by decide +kernel
theorem dX8_init_20 : decode cX8_init 20 = .ok (.invokespecial 20, 3) := by decide +kernel
theorem dX8_init_23 : decode cX8_init 23 = .ok (.putfield 21, 3) := by decide +kernel
theorem dX8_init_26 : decode cX8_init 26 = .ok (.aload_n 0, 1) := by decide +kernel
theorem dX8_init_27 : decode cX8_init 27 = .ok (.getstatic 25, 3) := by decide +kernel
theorem dX8_init_30 : decode cX8_init 30 = .ok (.putfield 31, 3) := by decide +kernel
theorem dX8_init_33 : decode cX8_init 33 = .ok (.aload_n 0, 1) := by decide +kernel
theorem dX8_init_34 : decode cX8_init 34 = .ok (.iconst 4, 1) := by decide +kernel
theorem dX8_init_35 : decode cX8_init 35 = .ok (.newarray .int, 2) := by decide +kernel
theorem dX8_init_37 : decode cX8_init 37 = .ok (.putfield 34, 3) := by decide +kernel
theorem dX8_init_40 : decode cX8_init 40 = .ok (.aload_n 0, 1) := by decide +kernel
theorem dX8_init_41 : decode cX8_init 41 = .ok (.iconst 2, 1) := by decide +kernel
theorem dX8_init_42 : decode cX8_init 42 = .ok (.newarray .int, 2) := by decide +kernel
theorem dX8_init_44 : decode cX8_init 44 = .ok (.putfield 38, 3) := by decide +kernel
theorem dX8_init_47 : decode cX8_init 47 = .ok (.aload_n 0, 1) := by decide +kernel
theorem dX8_init_48 : decode cX8_init 48 = .ok (.iconst 2, 1) := by decide +kernel
theorem dX8_init_49 : decode cX8_init 49 = .ok (.newarray .int, 2) := by decide +kernel
theorem dX8_init_51 : decode cX8_init 51 = .ok (.putfield 41, 3) := by decide +kernel
theorem dX8_init_54 : decode cX8_init 54 = .ok (.return_, 1) := by decide +kernel
theorem dX8_run_0 : decode cX8_run 0 = .ok (.aload_n 0, 1) := by decide +kernel
theorem dX8_run_1 : decode cX8_run 1 = .ok (.getfield 21, 3) := by decide +kernel
theorem dX8_run_4 : decode cX8_run 4 = .ok (.invokevirtual 44, 3) := by decide +kernel
theorem dX8_run_7 : decode cX8_run 7 = .ok (.aload_n 0, 1) := by decide +kernel
theorem dX8_run_8 : decode cX8_run 8 = .ok (.iconst 0, 1) := by decide +kernel
theorem dX8_run_9 : decode cX8_run 9 = .ok (.putfield 47, 3) := by decide +kernel
theorem dX8_run_12 : decode cX8_run 12 = .ok (.aload_n 0, 1) := by decide +kernel
theorem dX8_run_13 : decode cX8_run 13 = .ok (.iconst 0, 1) := by decide +kernel
theorem dX8_run_14 : decode cX8_run 14 = .ok (.putfield 51, 3) := by decide +kernel
theorem dX8_run_17 : decode cX8_run 17 = .ok (.aload_n 0, 1) := by decide +kernel
theorem dX8_run_18 : decode cX8_run 18 = .ok (.iconst 0, 1) := by decide +kernel
theorem dX8_run_19 : decode cX8_run 19 = .ok (.putfield 54, 3) := by decide +kernel
theorem dX8_run_22 : decode cX8_run 22 = .ok (.aload_n 0, 1) := by decide +kernel
theorem dX8_run_23 : decode cX8_run 23 = .ok (.iconst 0, 1) := by decide +kernel
theorem dX8_run_24 : decode cX8_run 24 = .ok (.putfield 57, 3) := by decide +kernel
theorem dX8_run_27 : decode cX8_run 27 = .ok (.aload_n 0, 1) := by decide +kernel
theorem dX8_run_28 : decode cX8_run 28 = .ok (.invokevirtual 60, 3) := by decide +kernel
theorem dX8_run_31 : decode cX8_run 31 = .ok (.ifCond .eq 17, 3) := by decide +kernel
theorem dX8_run_34 : decode cX8_run 34 = .ok (.aload_n 0, 1) := by decide +kernel
theorem dX8_run_35 : decode cX8_run 35 = .ok (.getstatic 64, 3) := by decide +kernel
theorem dX8_run_38 : decode cX8_run 38 = .ok (.invokevirtual 67, 3) := by decide +kernel
theorem dX8_run_41 : decode cX8_run 41 = .ok (.ifCond .eq 7, 3) := by decide +kernel
theorem dX8_run_44 : decode cX8_run 44 = .ok (.iconst 1, 1) := by decide +kernel
theorem dX8_run_45 : decode cX8_run 45 = .ok (.goto 4, 3) := by decide +kernel
theorem dX8_run_48 : decode cX8_run 48 = .ok (.iconst 0, 1) := by decide +kernel
theorem dX8_run_49 : decode cX8_run 49 = .ok (.istore_n 1, 1) := by decide +kernel
theorem dX8_run_50 : decode cX8_run 50 = .ok (.iconst 0, 1) := by decide +kernel
theorem dX8_run_51 : decode cX8_run 51 = .ok (.istore_n 2, 1) := by decide +kernel
theorem dX8_run_52 : decode cX8_run 52 = .ok (.iload_n 1, 1) := by decide +kernel
theorem dX8_run_53 : decode cX8_run 53 = .ok (.ifCond .eq 71, 3) := by decide +kernel
theorem dX8_run_56 : decode cX8_run 56 = .ok (.iload_n 2, 1) := by decide +kernel
theorem dX8_run_57 : decode cX8_run 57 = .ok (.ldc 71, 2) := by decide +kernel
theorem dX8_run_59 : decode cX8_run 59 = .ok (.if_icmp .ge 65, 3) := by decide +kernel
theorem dX8_run_62 : decode cX8_run 62 = .ok (.aload_n 0, 1) := by decide +kernel
theorem dX8_run_63 : decode cX8_run 63 = .ok (.invokevirtual 72, 3) := by decide +kernel
theorem dX8_run_66 : decode cX8_run 66 = .ok (.aload_n 0, 1) := by decide +kernel
theorem dX8_run_67 : decode cX8_run 67 = .ok (.getfield 31, 3) := by decide +kernel
theorem dX8_run_70 : decode cX8_run 70 = .ok (.getstatic 25, 3) := by decide +kernel
theorem dX8_run_73 : decode cX8_run 73 = .ok (.if_acmp .ne 15, 3) := by decide +kernel
theorem dX8_run_76 : decode cX8_run 76 = .ok (.aload_n 0, 1) := by decide +kernel
theorem dX8_run_77 : decode cX8_run 77 = .ok (.getfield 57, 3) := by decide +kernel
theorem dX8_run_80 : decode cX8_run 80 = .ok (.ifCond .ne 8, 3) := by decide +kernel
theorem dX8_run_83 : decode cX8_run 83 = .ok (.iconst 0, 1) := by decide +kernel
theorem dX8_run_84 : decode cX8_run 84 = .ok (.istore_n 1, 1) := by decide +kernel
theorem dX8_run_85 : decode cX8_run 85 = .ok (.goto 33, 3) := by decide +kernel
theorem dX8_run_88 : decode cX8_run 88 = .ok (.aload_n 0, 1) := by decide +kernel
theorem dX8_run_89 : decode cX8_run 89 = .ok (.getfield 31, 3) := by decide +kernel
theorem dX8_run_92 : decode cX8_run 92 = .ok (.getstatic 75, 3) := by decide +kernel
theorem dX8_run_95 : decode cX8_run 95 = .ok (.if_acmp .ne 18, 3) := by decide +kernel
theorem dX8_run_98 : decode cX8_run 98 = .ok (.aload_n 0, 1) := by decide +kernel
theorem dX8_run_99 : decode cX8_run 99 = .ok (.getfield 57, 3) := by decide +kernel
theorem dX8_run_102 : decode cX8_run 102 = .ok (.ifCond .le 11, 3) := by decide +kernel
theorem dX8_run_105 : decode cX8_run 105 = .ok (.aload_n 0, 1) := by decide +kernel
theorem dX8_run_106 : decode cX8_run 106 = .ok (.invokevirtual 78, 3) := by decide +kernel
theorem dX8_run_109 : decode cX8_run 109 = .ok (.istore_n 1, 1) := by decide +kernel
theorem dX8_run_110 : decode cX8_run 110 = .ok (.goto 8, 3) := by decide +kernel
theorem dX8_run_113 : decode cX8_run 113 = .ok (.aload_n 0, 1) := by decide +kernel
theorem dX8_run_114 : decode cX8_run 114 = .ok (.invokevirtual 81, 3) := by decide +kernel
theorem dX8_run_117 : decode cX8_run 117 = .ok (.istore_n 1, 1) := by decide +kernel
theorem dX8_run_118 : decode cX8_run 118 = .ok (.iinc 2 1, 3) := by decide +kernel
theorem dX8_run_121 : decode cX8_run 121 = .ok (.goto (-69), 3) := by decide +kernel
theorem dX8_run_124 : decode cX8_run 124 = .ok (.aload_n 0, 1) := by decide +kernel
theorem dX8_run_125 : decode cX8_run 125 = .ok (.getfield 47, 3) := by decide +kernel
theorem dX8_run_128 : decode cX8_run 128 = .ok (.ifCond .ne 7, 3) := by decide +kernel
theorem dX8_run_131 : decode cX8_run 131 = .ok (.iconst 1, 1) := by decide +kernel
theorem dX8_run_132 : decode cX8_run 132 = .ok (.goto 4, 3) := by decide +kernel
theorem dX8_run_135 : decode cX8_run 135 = .ok (.iconst 0, 1) := by decide +kernel
theorem dX8_run_136 : decode cX8_run 136 = .ok (.ireturn, 1) := by decide +kernel
theorem dX8_runCommand_0 : decode cX8_runCommand 0 = .ok (.aload_n 0, 1) := by decide +kernel
theorem dX8_runCommand_1 : decode cX8_runCommand 1 = .ok (.invokevirtual 84, 3) := by decide +kernel
theorem dX8_runCommand_4 : decode cX8_runCommand 4 = .ok (.astore_n 1, 1) := by decide +kernel
theorem dX8_runCommand_5 : decode cX8_runCommand 5 = .ok (.aload_n 1, 1) := by decide +kernel
theorem dX8_runCommand_6 : decode cX8_runCommand 6 = .ok (.ifnonnull 9, 3) := by decide +kernel
theorem dX8_runCommand_9 : decode cX8_runCommand 9 = .ok (.aload_n 0, 1) := by decide +kernel
theorem dX8_runCommand_10 : decode cX8_runCommand 10 = .ok (.iconst 1, 1) := by decide +kernel
theorem dX8_runCommand_11 : decode cX8_runCommand 11 = .ok (.invokevirtual 88, 3) := by decide +kernel
theorem dX8_runCommand_14 : decode cX8_runCommand 14 = .ok (.ireturn, 1) := by decide +kernel
theorem dX8_runCommand_15 : decode cX8_runCommand 15 = .ok (.aload_n 0, 1) := by decide +kernel
theorem dX8_runCommand_16 : decode cX8_runCommand 16 = .ok (.iconst 0, 1) := by decide +kernel
theorem dX8_runCommand_17 : decode cX8_runCommand 17 = .ok (.putfield 92, 3) := by decide +kernel
theorem dX8_runCommand_20 : decode cX8_runCommand 20 = .ok (.aload_n 1, 1) := by decide +kernel
theorem dX8_runCommand_21 : decode cX8_runCommand 21 = .ok (.getstatic 95, 3) := by decide +kernel
theorem dX8_runCommand_24 : decode cX8_runCommand 24 = .ok (.if_acmp .ne 24, 3) := by decide +kernel
theorem dX8_runCommand_27 : decode cX8_runCommand 27 = .ok (.aload_n 0, 1) := by decide +kernel
theorem dX8_runCommand_28 : decode cX8_runCommand 28 = .ok (.getfield 57, 3) := by decide +kernel
theorem dX8_runCommand_31 : decode cX8_runCommand 31 = .ok (.iconst 2, 1) := by decide +kernel
theorem dX8_runCommand_32 : decode cX8_runCommand 32 = .ok (.if_icmp .ge 10, 3) := by decide +kernel
theorem dX8_runCommand_35 : decode cX8_runCommand 35 = .ok (.aload_n 0, 1) := by decide +kernel
theorem dX8_runCommand_36 : decode cX8_runCommand 36 = .ok (.invokevirtual 101, 3) := by decide +kernel
theorem dX8_runCommand_39 : decode cX8_runCommand 39 = .ok (.goto 8, 3) := by decide +kernel
theorem dX8_runCommand_42 : decode cX8_runCommand 42 = .ok (.aload_n 0, 1) := by decide +kernel
theorem dX8_runCommand_43 : decode cX8_runCommand 43 = .ok (.iconst 4, 1) := by decide +kernel
theorem dX8_runCommand_44 : decode cX8_runCommand 44 = .ok (.invokevirtual 88, 3) := by decide +kernel
theorem dX8_runCommand_47 : decode cX8_runCommand 47 = .ok (.ireturn, 1) := by decide +kernel
theorem dX8_runCommand_48 : decode cX8_runCommand 48 = .ok (.aload_n 0, 1) := by decide +kernel
theorem dX8_runCommand_49 : decode cX8_runCommand 49 = .ok (.getfield 54, 3) := by decide +kernel
theorem dX8_runCommand_52 : decode cX8_runCommand 52 = .ok (.sipush 200, 3) := by decide +kernel
theorem dX8_runCommand_55 : decode cX8_runCommand 55 = .ok (.if_icmp .lt 9, 3) := by decide +kernel
theorem dX8_runCommand_58 : decode cX8_runCommand 58 = .ok (.aload_n 0, 1) := by decide +kernel
theorem dX8_runCommand_59 : decode cX8_runCommand 59 = .ok (.iconst 5, 1) := by decide +kernel
theorem dX8_runCommand_60 : decode cX8_runCommand 60 = .ok (.invokevirtual 88, 3) := by decide +kernel
theorem dX8_runCommand_63 : decode cX8_runCommand 63 = .ok (.ireturn, 1) := by decide +kernel
theorem dX8_runCommand_64 : decode cX8_runCommand 64 = .ok (.aload_n 0, 1) := by decide +kernel
theorem dX8_runCommand_65 : decode cX8_runCommand 65 = .ok (.aload_n 1, 1) := by decide +kernel
theorem dX8_runCommand_66 : decode cX8_runCommand 66 = .ok (.invokevirtual 104, 3) := by decide +kernel
theorem dX8_runCommand_69 : decode cX8_runCommand 69 = .ok (.ifCond .eq 13, 3) := by decide +kernel
theorem dX8_runCommand_72 : decode cX8_runCommand 72 = .ok (.aload_n 0, 1) := by decide +kernel
theorem dX8_runCommand_73 : decode cX8_runCommand 73 = .ok (.getstatic 64, 3) := by decide +kernel
theorem dX8_runCommand_76 : decode cX8_runCommand 76 = .ok (.invokevirtual 67, 3) := by decide +kernel
theorem dX8_runCommand_79 : decode cX8_runCommand 79 = .ok (.ifCond .ne 5, 3) := by decide +kernel
theorem dX8_runCommand_82 : decode cX8_runCommand 82 = .ok (.iconst 0, 1) := by decide +kernel
theorem dX8_runCommand_83 : decode cX8_runCommand 83 = .ok (.ireturn, 1) := by decide +kernel
theorem dX8_runCommand_84 : decode cX8_runCommand 84 = .ok (.aload_n 0, 1) := by decide +kernel
theorem dX8_runCommand_85 : decode cX8_runCommand 85 = .ok (.aload_n 1, 1) := by decide +kernel
theorem dX8_runCommand_86 : decode cX8_runCommand 86 = .ok (.invokevirtual 108, 3) := by decide +kernel
theorem dX8_runCommand_89 : decode cX8_runCommand 89 = .ok (.ifCond .eq 9, 3) := by decide +kernel
theorem dX8_runCommand_92 : decode cX8_runCommand 92 = .ok (.aload_n 0, 1) := by decide +kernel
theorem dX8_runCommand_93 : decode cX8_runCommand 93 = .ok (.iconst 3, 1) := by decide +kernel
theorem dX8_runCommand_94 : decode cX8_runCommand 94 = .ok (.invokevirtual 88, 3) := by decide +kernel
theorem dX8_runCommand_97 : decode cX8_runCommand 97 = .ok (.ireturn, 1) := by decide +kernel
theorem dX8_runCommand_98 : decode cX8_runCommand 98 = .ok (.aload_n 0, 1) := by decide +kernel
theorem dX8_runCommand_99 : decode cX8_runCommand 99 = .ok (.aload_n 1, 1) := by decide +kernel
theorem dX8_runCommand_100 : decode cX8_runCommand 100 = .ok (.invokevirtual 111, 3) := by decide +kernel
theorem dX8_runCommand_103 : decode cX8_runCommand 103 = .ok (.aload_n 0, 1) := by decide +kernel
theorem dX8_runCommand_104 : decode cX8_runCommand 104 = .ok (.dup, 1) := by decide +kernel
theorem dX8_runCommand_105 : decode cX8_runCommand 105 = .ok (.getfield 54, 3) := by decide +kernel
theorem dX8_runCommand_108 : decode cX8_runCommand 108 = .ok (.iconst 1, 1) := by decide +kernel
theorem dX8_runCommand_109 : decode cX8_runCommand 109 = .ok (.iadd, 1) := by decide +kernel
theorem dX8_runCommand_110 : decode cX8_runCommand 110 = .ok (.putfield 54, 3) := by decide +kernel
theorem dX8_runCommand_113 : decode cX8_runCommand 113 = .ok (.iconst 1, 1) := by decide +kernel
theorem dX8_runCommand_114 : decode cX8_runCommand 114 = .ok (.ireturn, 1) := by decide +kernel
theorem dX8_commandHere_0 : decode cX8_commandHere 0 = .ok (.iconst 0, 1) := by decide +kernel
theorem dX8_commandHere_1 : decode cX8_commandHere 1 = .ok (.istore_n 1, 1) := by decide +kernel
theorem dX8_commandHere_2 : decode cX8_commandHere 2 = .ok (.iload_n 1, 1) := by decide +kernel
theorem dX8_commandHere_3 : decode cX8_commandHere 3 = .ok (.getstatic 115, 3) := by decide +kernel
theorem dX8_commandHere_6 : decode cX8_commandHere 6 = .ok (.arraylength, 1) := by decide +kernel
theorem dX8_commandHere_7 : decode cX8_commandHere 7 = .ok (.if_icmp .ge 30, 3) := by decide +kernel
theorem dX8_commandHere_10 : decode cX8_commandHere 10 = .ok (.aload_n 0, 1) := by decide +kernel
theorem dX8_commandHere_11 : decode cX8_commandHere 11 = .ok (.getstatic 115, 3) := by decide +kernel
theorem dX8_commandHere_14 : decode cX8_commandHere 14 = .ok (.iload_n 1, 1) := by decide +kernel
theorem dX8_commandHere_15 : decode cX8_commandHere 15 = .ok (.aaload, 1) := by decide +kernel
theorem dX8_commandHere_16 : decode cX8_commandHere 16 = .ok (.getfield 119, 3) := by decide +kernel
theorem dX8_commandHere_19 : decode cX8_commandHere 19 = .ok (.invokevirtual 123, 3) := by decide +kernel
theorem dX8_commandHere_22 : decode cX8_commandHere 22 = .ok (.ifCond .eq 9, 3) := by decide +kernel
theorem dX8_commandHere_25 : decode cX8_commandHere 25 = .ok (.getstatic 115, 3) := by decide +kernel
theorem dX8_commandHere_28 : decode cX8_commandHere 28 = .ok (.iload_n 1, 1) := by decide +kernel
theorem dX8_commandHere_29 : decode cX8_commandHere 29 = .ok (.aaload, 1) := by decide +kernel
theorem dX8_commandHere_30 : decode cX8_commandHere 30 = .ok (.areturn, 1) := by decide +kernel
theorem dX8_commandHere_31 : decode cX8_commandHere 31 = .ok (.iinc 1 1, 3) := by decide +kernel
theorem dX8_commandHere_34 : decode cX8_commandHere 34 = .ok (.goto (-32), 3) := by decide +kernel
theorem dX8_commandHere_37 : decode cX8_commandHere 37 = .ok (.aconst_null, 1) := by decide +kernel
theorem dX8_commandHere_38 : decode cX8_commandHere 38 = .ok (.areturn, 1) := by decide +kernel
theorem dX8_openRepeat_0 : decode cX8_openRepeat 0 = .ok (.aload_n 0, 1) := by decide +kernel
theorem dX8_openRepeat_1 : decode cX8_openRepeat 1 = .ok (.iconst 1, 1) := by decide +kernel
theorem dX8_openRepeat_2 : decode cX8_openRepeat 2 = .ok (.bipush 20, 2) := by decide +kernel
theorem dX8_openRepeat_4 : decode cX8_openRepeat 4 = .ok (.invokevirtual 127, 3) := by decide +kernel
theorem dX8_openRepeat_7 : decode cX8_openRepeat 7 = .ok (.ifCond .eq 13, 3) := by decide +kernel
theorem dX8_openRepeat_10 : decode cX8_openRepeat 10 = .ok (.aload_n 0, 1) := by decide +kernel
theorem dX8_openRepeat_11 : decode cX8_openRepeat 11 = .ok (.getstatic 131, 3) := by decide +kernel
theorem dX8_openRepeat_14 : decode cX8_openRepeat 14 = .ok (.invokevirtual 67, 3) := by decide +kernel
theorem dX8_openRepeat_17 : decode cX8_openRepeat 17 = .ok (.ifCond .ne 5, 3) := by decide +kernel
theorem dX8_openRepeat_20 : decode cX8_openRepeat 20 = .ok (.iconst 0, 1) := by decide +kernel
theorem dX8_openRepeat_21 : decode cX8_openRepeat 21 = .ok (.ireturn, 1) := by decide +kernel
theorem dX8_openRepeat_22 : decode cX8_openRepeat 22 = .ok (.aload_n 0, 1) := by decide +kernel
theorem dX8_openRepeat_23 : decode cX8_openRepeat 23 = .ok (.getfield 57, 3) := by decide +kernel
theorem dX8_openRepeat_26 : decode cX8_openRepeat 26 = .ok (.ifCond .lt 48, 3) := by decide +kernel
theorem dX8_openRepeat_29 : decode cX8_openRepeat 29 = .ok (.aload_n 0, 1) := by decide +kernel
theorem dX8_openRepeat_30 : decode cX8_openRepeat 30 = .ok (.getfield 57, 3) := by decide +kernel
theorem dX8_openRepeat_33 : decode cX8_openRepeat 33 = .ok (.iconst 2, 1) := by decide +kernel
theorem dX8_openRepeat_34 : decode cX8_openRepeat 34 = .ok (.if_icmp .ge 40, 3) := by decide +kernel
theorem dX8_openRepeat_37 : decode cX8_openRepeat 37 = .ok (.aload_n 0, 1) := by decide +kernel
theorem dX8_openRepeat_38 : decode cX8_openRepeat 38 = .ok (.getfield 38, 3) := by decide +kernel
theorem dX8_openRepeat_41 : decode cX8_openRepeat 41 = .ok (.aload_n 0, 1) := by decide +kernel
theorem dX8_openRepeat_42 : decode cX8_openRepeat 42 = .ok (.getfield 57, 3) := by decide +kernel
theorem dX8_openRepeat_45 : decode cX8_openRepeat 45 = .ok (.aload_n 0, 1) := by decide +kernel
theorem dX8_openRepeat_46 : decode cX8_openRepeat 46 = .ok (.getfield 51, 3) := by decide +kernel
theorem dX8_openRepeat_49 : decode cX8_openRepeat 49 = .ok (.iastore, 1) := by decide +kernel
theorem dX8_openRepeat_50 : decode cX8_openRepeat 50 = .ok (.aload_n 0, 1) := by decide +kernel
theorem dX8_openRepeat_51 : decode cX8_openRepeat 51 = .ok (.getfield 41, 3) := by decide +kernel
theorem dX8_openRepeat_54 : decode cX8_openRepeat 54 = .ok (.aload_n 0, 1) := by decide +kernel
theorem dX8_openRepeat_55 : decode cX8_openRepeat 55 = .ok (.getfield 57, 3) := by decide +kernel
theorem dX8_openRepeat_58 : decode cX8_openRepeat 58 = .ok (.aload_n 0, 1) := by decide +kernel
theorem dX8_openRepeat_59 : decode cX8_openRepeat 59 = .ok (.iconst 0, 1) := by decide +kernel
theorem dX8_openRepeat_60 : decode cX8_openRepeat 60 = .ok (.invokevirtual 134, 3) := by decide +kernel
theorem dX8_openRepeat_63 : decode cX8_openRepeat 63 = .ok (.iastore, 1) := by decide +kernel
theorem dX8_openRepeat_64 : decode cX8_openRepeat 64 = .ok (.aload_n 0, 1) := by decide +kernel
theorem dX8_openRepeat_65 : decode cX8_openRepeat 65 = .ok (.dup, 1) := by decide +kernel
theorem dX8_openRepeat_66 : decode cX8_openRepeat 66 = .ok (.getfield 57, 3) := by decide +kernel
theorem dX8_openRepeat_69 : decode cX8_openRepeat 69 = .ok (.iconst 1, 1) := by decide +kernel
theorem dX8_openRepeat_70 : decode cX8_openRepeat 70 = .ok (.iadd, 1) := by decide +kernel
theorem dX8_openRepeat_71 : decode cX8_openRepeat 71 = .ok (.putfield 57, 3) := by decide +kernel
theorem dX8_openRepeat_74 : decode cX8_openRepeat 74 = .ok (.iconst 1, 1) := by decide +kernel
theorem dX8_openRepeat_75 : decode cX8_openRepeat 75 = .ok (.ireturn, 1) := by decide +kernel
theorem dX8_closeRepeat_0 : decode cX8_closeRepeat 0 = .ok (.aload_n 0, 1) := by decide +kernel
theorem dX8_closeRepeat_1 : decode cX8_closeRepeat 1 = .ok (.getfield 57, 3) := by decide +kernel
theorem dX8_closeRepeat_4 : decode cX8_closeRepeat 4 = .ok (.iconst 1, 1) := by decide +kernel
theorem dX8_closeRepeat_5 : decode cX8_closeRepeat 5 = .ok (.isub, 1) := by decide +kernel
theorem dX8_closeRepeat_6 : decode cX8_closeRepeat 6 = .ok (.istore_n 1, 1) := by decide +kernel
theorem dX8_closeRepeat_7 : decode cX8_closeRepeat 7 = .ok (.iload_n 1, 1) := by decide +kernel
theorem dX8_closeRepeat_8 : decode cX8_closeRepeat 8 = .ok (.ifCond .lt 8, 3) := by decide +kernel
theorem dX8_closeRepeat_11 : decode cX8_closeRepeat 11 = .ok (.iload_n 1, 1) := by decide +kernel
theorem dX8_closeRepeat_12 : decode cX8_closeRepeat 12 = .ok (.iconst 2, 1) := by decide +kernel
theorem dX8_closeRepeat_13 : decode cX8_closeRepeat 13 = .ok (.if_icmp .lt 9, 3) := by decide +kernel
theorem dX8_closeRepeat_16 : decode cX8_closeRepeat 16 = .ok (.aload_n 0, 1) := by decide +kernel
theorem dX8_closeRepeat_17 : decode cX8_closeRepeat 17 = .ok (.iconst 1, 1) := by decide +kernel
theorem dX8_closeRepeat_18 : decode cX8_closeRepeat 18 = .ok (.invokevirtual 88, 3) := by decide +kernel
theorem dX8_closeRepeat_21 : decode cX8_closeRepeat 21 = .ok (.ireturn, 1) := by decide +kernel
theorem dX8_closeRepeat_22 : decode cX8_closeRepeat 22 = .ok (.aload_n 0, 1) := by decide +kernel
theorem dX8_closeRepeat_23 : decode cX8_closeRepeat 23 = .ok (.getfield 41, 3) := by decide +kernel
theorem dX8_closeRepeat_26 : decode cX8_closeRepeat 26 = .ok (.iload_n 1, 1) := by decide +kernel
theorem dX8_closeRepeat_27 : decode cX8_closeRepeat 27 = .ok (.dup2, 1) := by decide +kernel
theorem dX8_closeRepeat_28 : decode cX8_closeRepeat 28 = .ok (.iaload, 1) := by decide +kernel
theorem dX8_closeRepeat_29 : decode cX8_closeRepeat 29 = .ok (.iconst 1, 1) := by decide +kernel
theorem dX8_closeRepeat_30 : decode cX8_closeRepeat 30 = .ok (.isub, 1) := by decide +kernel
theorem dX8_closeRepeat_31 : decode cX8_closeRepeat 31 = .ok (.iastore, 1) := by decide +kernel
theorem dX8_closeRepeat_32 : decode cX8_closeRepeat 32 = .ok (.aload_n 0, 1) := by decide +kernel
theorem dX8_closeRepeat_33 : decode cX8_closeRepeat 33 = .ok (.getfield 41, 3) := by decide +kernel
theorem dX8_closeRepeat_36 : decode cX8_closeRepeat 36 = .ok (.iload_n 1, 1) := by decide +kernel
theorem dX8_closeRepeat_37 : decode cX8_closeRepeat 37 = .ok (.iaload, 1) := by decide +kernel
theorem dX8_closeRepeat_38 : decode cX8_closeRepeat 38 = .ok (.ifCond .le 15, 3) := by decide +kernel
theorem dX8_closeRepeat_41 : decode cX8_closeRepeat 41 = .ok (.aload_n 0, 1) := by decide +kernel
theorem dX8_closeRepeat_42 : decode cX8_closeRepeat 42 = .ok (.aload_n 0, 1) := by decide +kernel
theorem dX8_closeRepeat_43 : decode cX8_closeRepeat 43 = .ok (.getfield 38, 3) := by decide +kernel
theorem dX8_closeRepeat_46 : decode cX8_closeRepeat 46 = .ok (.iload_n 1, 1) := by decide +kernel
theorem dX8_closeRepeat_47 : decode cX8_closeRepeat 47 = .ok (.iaload, 1) := by decide +kernel
theorem dX8_closeRepeat_48 : decode cX8_closeRepeat 48 = .ok (.putfield 51, 3) := by decide +kernel
theorem dX8_closeRepeat_51 : decode cX8_closeRepeat 51 = .ok (.iconst 1, 1) := by decide +kernel
theorem dX8_closeRepeat_52 : decode cX8_closeRepeat 52 = .ok (.ireturn, 1) := by decide +kernel
theorem dX8_closeRepeat_53 : decode cX8_closeRepeat 53 = .ok (.aload_n 0, 1) := by decide +kernel
theorem dX8_closeRepeat_54 : decode cX8_closeRepeat 54 = .ok (.iload_n 1, 1) := by decide +kernel
theorem dX8_closeRepeat_55 : decode cX8_closeRepeat 55 = .ok (.putfield 57, 3) := by decide +kernel
theorem dX8_closeRepeat_58 : decode cX8_closeRepeat 58 = .ok (.aload_n 0, 1) := by decide +kernel
theorem dX8_closeRepeat_59 : decode cX8_closeRepeat 59 = .ok (.getstatic 64, 3) := by decide +kernel
theorem dX8_closeRepeat_62 : decode cX8_closeRepeat 62 = .ok (.invokevirtual 67, 3) := by decide +kernel
theorem dX8_closeRepeat_65 : decode cX8_closeRepeat 65 = .ok (.ireturn, 1) := by decide +kernel
theorem dX8_readOperands_0 : decode cX8_readOperands 0 = .ok (.getstatic 138, 3) := by decide +kernel
theorem dX8_readOperands_3 : decode cX8_readOperands 3 = .ok (.aload_n 1, 1) := by decide +kernel
theorem dX8_readOperands_4 : decode cX8_readOperands 4 = .ok (.invokevirtual 143, 3) := by decide +kernel
theorem dX8_readOperands_7 : decode cX8_readOperands 7 = .ok (.iaload, 1) := by decide +kernel
theorem dX8_readOperands_8 : decode cX8_readOperands 8 = .ok (.tableswitch 333 1 14 #[72, 82, 141, 173, 173, 173, 173, 188, 195, 204, 221, 250, 309, 324], 72) := by decide +kernel
theorem dX8_readOperands_80 : decode cX8_readOperands 80 = .ok (.aload_n 0, 1) := by decide +kernel
theorem dX8_readOperands_81 : decode cX8_readOperands 81 = .ok (.bipush 10, 2) := by decide +kernel
theorem dX8_readOperands_83 : decode cX8_readOperands 83 = .ok (.sipush 500, 3) := by decide +kernel
theorem dX8_readOperands_86 : decode cX8_readOperands 86 = .ok (.invokevirtual 127, 3) := by decide +kernel
theorem dX8_readOperands_89 : decode cX8_readOperands 89 = .ok (.ireturn, 1) := by decide +kernel
theorem dX8_readOperands_90 : decode cX8_readOperands 90 = .ok (.aload_n 0, 1) := by decide +kernel
theorem dX8_readOperands_91 : decode cX8_readOperands 91 = .ok (.iconst 0, 1) := by decide +kernel
theorem dX8_readOperands_92 : decode cX8_readOperands 92 = .ok (.aload_n 0, 1) := by decide +kernel
theorem dX8_readOperands_93 : decode cX8_readOperands 93 = .ok (.getfield 21, 3) := by decide +kernel
theorem dX8_readOperands_96 : decode cX8_readOperands 96 = .ok (.getfield 147, 3) := by decide +kernel
theorem dX8_readOperands_99 : decode cX8_readOperands 99 = .ok (.iconst 1, 1) := by decide +kernel
theorem dX8_readOperands_100 : decode cX8_readOperands 100 = .ok (.isub, 1) := by decide +kernel
theorem dX8_readOperands_101 : decode cX8_readOperands 101 = .ok (.invokevirtual 127, 3) := by decide +kernel
theorem dX8_readOperands_104 : decode cX8_readOperands 104 = .ok (.ifCond .eq 43, 3) := by decide +kernel
theorem dX8_readOperands_107 : decode cX8_readOperands 107 = .ok (.aload_n 0, 1) := by decide +kernel
theorem dX8_readOperands_108 : decode cX8_readOperands 108 = .ok (.iconst 1, 1) := by decide +kernel
theorem dX8_readOperands_109 : decode cX8_readOperands 109 = .ok (.aload_n 0, 1) := by decide +kernel
theorem dX8_readOperands_110 : decode cX8_readOperands 110 = .ok (.getfield 21, 3) := by decide +kernel
theorem dX8_readOperands_113 : decode cX8_readOperands 113 = .ok (.aload_n 0, 1) := by decide +kernel
theorem dX8_readOperands_114 : decode cX8_readOperands 114 = .ok (.iconst 0, 1) := by decide +kernel
theorem dX8_readOperands_115 : decode cX8_readOperands 115 = .ok (.invokevirtual 134, 3) := by decide +kernel
theorem dX8_readOperands_118 : decode cX8_readOperands 118 = .ok (.invokevirtual 150, 3) := by decide +kernel
theorem dX8_readOperands_121 : decode cX8_readOperands 121 = .ok (.getfield 154, 3) := by decide +kernel
theorem dX8_readOperands_124 : decode cX8_readOperands 124 = .ok (.invokevirtual 127, 3) := by decide +kernel
theorem dX8_readOperands_127 : decode cX8_readOperands 127 = .ok (.ifCond .eq 20, 3) := by decide +kernel
theorem dX8_readOperands_130 : decode cX8_readOperands 130 = .ok (.aload_n 0, 1) := by decide +kernel
theorem dX8_readOperands_131 : decode cX8_readOperands 131 = .ok (.sipush 600, 3) := by decide +kernel
theorem dX8_readOperands_134 : decode cX8_readOperands 134 = .ok (.sipush 900, 3) := by decide +kernel
theorem dX8_readOperands_137 : decode cX8_readOperands 137 = .ok (.invokevirtual 127, 3) := by decide +kernel
theorem dX8_readOperands_140 : decode cX8_readOperands 140 = .ok (.ifCond .eq 7, 3) := by decide +kernel
theorem dX8_readOperands_143 : decode cX8_readOperands 143 = .ok (.iconst 1, 1) := by decide +kernel
theorem dX8_readOperands_144 : decode cX8_readOperands 144 = .ok (.goto 4, 3) := by decide +kernel
theorem dX8_readOperands_147 : decode cX8_readOperands 147 = .ok (.iconst 0, 1) := by decide +kernel
theorem dX8_readOperands_148 : decode cX8_readOperands 148 = .ok (.ireturn, 1) := by decide +kernel
theorem dX8_readOperands_149 : decode cX8_readOperands 149 = .ok (.aload_n 0, 1) := by decide +kernel
theorem dX8_readOperands_150 : decode cX8_readOperands 150 = .ok (.iconst 0, 1) := by decide +kernel
theorem dX8_readOperands_151 : decode cX8_readOperands 151 = .ok (.aload_n 0, 1) := by decide +kernel
theorem dX8_readOperands_152 : decode cX8_readOperands 152 = .ok (.getfield 21, 3) := by decide +kernel
theorem dX8_readOperands_155 : decode cX8_readOperands 155 = .ok (.getfield 147, 3) := by decide +kernel
theorem dX8_readOperands_158 : decode cX8_readOperands 158 = .ok (.iconst 1, 1) := by decide +kernel
theorem dX8_readOperands_159 : decode cX8_readOperands 159 = .ok (.isub, 1) := by decide +kernel
theorem dX8_readOperands_160 : decode cX8_readOperands 160 = .ok (.invokevirtual 127, 3) := by decide +kernel
theorem dX8_readOperands_163 : decode cX8_readOperands 163 = .ok (.ifCond .eq 16, 3) := by decide +kernel
theorem dX8_readOperands_166 : decode cX8_readOperands 166 = .ok (.aload_n 0, 1) := by decide +kernel
theorem dX8_readOperands_167 : decode cX8_readOperands 167 = .ok (.iconst 0, 1) := by decide +kernel
theorem dX8_readOperands_168 : decode cX8_readOperands 168 = .ok (.iconst 5, 1) := by decide +kernel
theorem dX8_readOperands_169 : decode cX8_readOperands 169 = .ok (.invokevirtual 127, 3) := by decide +kernel
theorem dX8_readOperands_172 : decode cX8_readOperands 172 = .ok (.ifCond .eq 7, 3) := by decide +kernel
theorem dX8_readOperands_175 : decode cX8_readOperands 175 = .ok (.iconst 1, 1) := by decide +kernel
theorem dX8_readOperands_176 : decode cX8_readOperands 176 = .ok (.goto 4, 3) := by decide +kernel
theorem dX8_readOperands_179 : decode cX8_readOperands 179 = .ok (.iconst 0, 1) := by decide +kernel
theorem dX8_readOperands_180 : decode cX8_readOperands 180 = .ok (.ireturn, 1) := by decide +kernel
theorem dX8_readOperands_181 : decode cX8_readOperands 181 = .ok (.aload_n 0, 1) := by decide +kernel
theorem dX8_readOperands_182 : decode cX8_readOperands 182 = .ok (.iconst 0, 1) := by decide +kernel
theorem dX8_readOperands_183 : decode cX8_readOperands 183 = .ok (.aload_n 0, 1) := by decide +kernel
theorem dX8_readOperands_184 : decode cX8_readOperands 184 = .ok (.getfield 21, 3) := by decide +kernel
theorem dX8_readOperands_187 : decode cX8_readOperands 187 = .ok (.getfield 147, 3) := by decide +kernel
theorem dX8_readOperands_190 : decode cX8_readOperands 190 = .ok (.iconst 1, 1) := by decide +kernel
theorem dX8_readOperands_191 : decode cX8_readOperands 191 = .ok (.isub, 1) := by decide +kernel
theorem dX8_readOperands_192 : decode cX8_readOperands 192 = .ok (.invokevirtual 127, 3) := by decide +kernel
theorem dX8_readOperands_195 : decode cX8_readOperands 195 = .ok (.ireturn, 1) := by decide +kernel
theorem dX8_readOperands_196 : decode cX8_readOperands 196 = .ok (.aload_n 0, 1) := by decide +kernel
theorem dX8_readOperands_197 : decode cX8_readOperands 197 = .ok (.iconst 0, 1) := by decide +kernel
theorem dX8_readOperands_198 : decode cX8_readOperands 198 = .ok (.iconst 5, 1) := by decide +kernel
theorem dX8_readOperands_199 : decode cX8_readOperands 199 = .ok (.invokevirtual 127, 3) := by decide +kernel
theorem dX8_readOperands_202 : decode cX8_readOperands 202 = .ok (.ireturn, 1) := by decide +kernel
theorem dX8_readOperands_203 : decode cX8_readOperands 203 = .ok (.aload_n 0, 1) := by decide +kernel
theorem dX8_readOperands_204 : decode cX8_readOperands 204 = .ok (.bipush 20, 2) := by decide +kernel
theorem dX8_readOperands_206 : decode cX8_readOperands 206 = .ok (.bipush 95, 2) := by decide +kernel
theorem dX8_readOperands_208 : decode cX8_readOperands 208 = .ok (.invokevirtual 127, 3) := by decide +kernel
theorem dX8_readOperands_211 : decode cX8_readOperands 211 = .ok (.ireturn, 1) := by decide +kernel
theorem dX8_readOperands_212 : decode cX8_readOperands 212 = .ok (.aload_n 0, 1) := by decide +kernel
theorem dX8_readOperands_213 : decode cX8_readOperands 213 = .ok (.aload_n 0, 1) := by decide +kernel
theorem dX8_readOperands_214 : decode cX8_readOperands 214 = .ok (.getfield 21, 3) := by decide +kernel
theorem dX8_readOperands_217 : decode cX8_readOperands 217 = .ok (.getfield 159, 3) := by decide +kernel
theorem dX8_readOperands_220 : decode cX8_readOperands 220 = .ok (.invokevirtual 163, 3) := by decide +kernel
theorem dX8_readOperands_223 : decode cX8_readOperands 223 = .ok (.bipush 83, 2) := by decide +kernel
theorem dX8_readOperands_225 : decode cX8_readOperands 225 = .ok (.invokevirtual 127, 3) := by decide +kernel
theorem dX8_readOperands_228 : decode cX8_readOperands 228 = .ok (.ireturn, 1) := by decide +kernel
theorem dX8_readOperands_229 : decode cX8_readOperands 229 = .ok (.aload_n 0, 1) := by decide +kernel
theorem dX8_readOperands_230 : decode cX8_readOperands 230 = .ok (.sipush 500, 3) := by decide +kernel
theorem dX8_readOperands_233 : decode cX8_readOperands 233 = .ok (.sipush 700, 3) := by decide +kernel
theorem dX8_readOperands_236 : decode cX8_readOperands 236 = .ok (.invokevirtual 127, 3) := by decide +kernel
theorem dX8_readOperands_239 : decode cX8_readOperands 239 = .ok (.ifCond .eq 17, 3) := by decide +kernel
theorem dX8_readOperands_242 : decode cX8_readOperands 242 = .ok (.aload_n 0, 1) := by decide +kernel
theorem dX8_readOperands_243 : decode cX8_readOperands 243 = .ok (.iconst 5, 1) := by decide +kernel
theorem dX8_readOperands_244 : decode cX8_readOperands 244 = .ok (.bipush 50, 2) := by decide +kernel
theorem dX8_readOperands_246 : decode cX8_readOperands 246 = .ok (.invokevirtual 127, 3) := by decide +kernel
theorem dX8_readOperands_249 : decode cX8_readOperands 249 = .ok (.ifCond .eq 7, 3) := by decide +kernel
theorem dX8_readOperands_252 : decode cX8_readOperands 252 = .ok (.iconst 1, 1) := by decide +kernel
theorem dX8_readOperands_253 : decode cX8_readOperands 253 = .ok (.goto 4, 3) := by decide +kernel
theorem dX8_readOperands_256 : decode cX8_readOperands 256 = .ok (.iconst 0, 1) := by decide +kernel
theorem dX8_readOperands_257 : decode cX8_readOperands 257 = .ok (.ireturn, 1) := by decide +kernel
theorem dX8_readOperands_258 : decode cX8_readOperands 258 = .ok (.aload_n 0, 1) := by decide +kernel
theorem dX8_readOperands_259 : decode cX8_readOperands 259 = .ok (.iconst 0, 1) := by decide +kernel
theorem dX8_readOperands_260 : decode cX8_readOperands 260 = .ok (.aload_n 0, 1) := by decide +kernel
theorem dX8_readOperands_261 : decode cX8_readOperands 261 = .ok (.getfield 21, 3) := by decide +kernel
theorem dX8_readOperands_264 : decode cX8_readOperands 264 = .ok (.getfield 147, 3) := by decide +kernel
theorem dX8_readOperands_267 : decode cX8_readOperands 267 = .ok (.iconst 1, 1) := by decide +kernel
theorem dX8_readOperands_268 : decode cX8_readOperands 268 = .ok (.isub, 1) := by decide +kernel
theorem dX8_readOperands_269 : decode cX8_readOperands 269 = .ok (.invokevirtual 127, 3) := by decide +kernel
theorem dX8_readOperands_272 : decode cX8_readOperands 272 = .ok (.ifCond .eq 43, 3) := by decide +kernel
theorem dX8_readOperands_275 : decode cX8_readOperands 275 = .ok (.aload_n 0, 1) := by decide +kernel
theorem dX8_readOperands_276 : decode cX8_readOperands 276 = .ok (.ldc 168, 2) := by decide +kernel
theorem dX8_readOperands_278 : decode cX8_readOperands 278 = .ok (.iconst 0, 1) := by decide +kernel
theorem dX8_readOperands_279 : decode cX8_readOperands 279 = .ok (.ldc 170, 2) := by decide +kernel
theorem dX8_readOperands_281 : decode cX8_readOperands 281 = .ok (.iconst 1, 1) := by decide +kernel
theorem dX8_readOperands_282 : decode cX8_readOperands 282 = .ok (.invokevirtual 172, 3) := by decide +kernel
theorem dX8_readOperands_285 : decode cX8_readOperands 285 = .ok (.ifCond .eq 30, 3) := by decide +kernel
theorem dX8_readOperands_288 : decode cX8_readOperands 288 = .ok (.aload_n 0, 1) := by decide +kernel
theorem dX8_readOperands_289 : decode cX8_readOperands 289 = .ok (.ldc 176, 2) := by decide +kernel
theorem dX8_readOperands_291 : decode cX8_readOperands 291 = .ok (.iconst 1, 1) := by decide +kernel
theorem dX8_readOperands_292 : decode cX8_readOperands 292 = .ok (.ldc 178, 2) := by decide +kernel
theorem dX8_readOperands_294 : decode cX8_readOperands 294 = .ok (.iconst (-1), 1) := by decide +kernel
theorem dX8_readOperands_295 : decode cX8_readOperands 295 = .ok (.invokevirtual 172, 3) := by decide +kernel
theorem dX8_readOperands_298 : decode cX8_readOperands 298 = .ok (.ifCond .eq 17, 3) := by decide +kernel
theorem dX8_readOperands_301 : decode cX8_readOperands 301 = .ok (.aload_n 0, 1) := by decide +kernel
theorem dX8_readOperands_302 : decode cX8_readOperands 302 = .ok (.iconst 0, 1) := by decide +kernel
theorem dX8_readOperands_303 : decode cX8_readOperands 303 = .ok (.bipush 50, 2) := by decide +kernel
theorem dX8_readOperands_305 : decode cX8_readOperands 305 = .ok (.invokevirtual 127, 3) := by decide +kernel
theorem dX8_readOperands_308 : decode cX8_readOperands 308 = .ok (.ifCond .eq 7, 3) := by decide +kernel
theorem dX8_readOperands_311 : decode cX8_readOperands 311 = .ok (.iconst 1, 1) := by decide +kernel
theorem dX8_readOperands_312 : decode cX8_readOperands 312 = .ok (.goto 4, 3) := by decide +kernel
theorem dX8_readOperands_315 : decode cX8_readOperands 315 = .ok (.iconst 0, 1) := by decide +kernel
theorem dX8_readOperands_316 : decode cX8_readOperands 316 = .ok (.ireturn, 1) := by decide +kernel
theorem dX8_readOperands_317 : decode cX8_readOperands 317 = .ok (.aload_n 0, 1) := by decide +kernel
theorem dX8_readOperands_318 : decode cX8_readOperands 318 = .ok (.iconst 0, 1) := by decide +kernel
theorem dX8_readOperands_319 : decode cX8_readOperands 319 = .ok (.aload_n 0, 1) := by decide +kernel
theorem dX8_readOperands_320 : decode cX8_readOperands 320 = .ok (.getfield 21, 3) := by decide +kernel
theorem dX8_readOperands_323 : decode cX8_readOperands 323 = .ok (.getfield 180, 3) := by decide +kernel
theorem dX8_readOperands_326 : decode cX8_readOperands 326 = .ok (.iconst 1, 1) := by decide +kernel
theorem dX8_readOperands_327 : decode cX8_readOperands 327 = .ok (.isub, 1) := by decide +kernel
theorem dX8_readOperands_328 : decode cX8_readOperands 328 = .ok (.invokevirtual 127, 3) := by decide +kernel
theorem dX8_readOperands_331 : decode cX8_readOperands 331 = .ok (.ireturn, 1) := by decide +kernel
theorem dX8_readOperands_332 : decode cX8_readOperands 332 = .ok (.aload_n 0, 1) := by decide +kernel
theorem dX8_readOperands_333 : decode cX8_readOperands 333 = .ok (.iconst 1, 1) := by decide +kernel
theorem dX8_readOperands_334 : decode cX8_readOperands 334 = .ok (.sipush 200, 3) := by decide +kernel
theorem dX8_readOperands_337 : decode cX8_readOperands 337 = .ok (.invokevirtual 127, 3) := by decide +kernel
theorem dX8_readOperands_340 : decode cX8_readOperands 340 = .ok (.ireturn, 1) := by decide +kernel
theorem dX8_readOperands_341 : decode cX8_readOperands 341 = .ok (.aload_n 0, 1) := by decide +kernel
theorem dX8_readOperands_342 : decode cX8_readOperands 342 = .ok (.iconst 1, 1) := by decide +kernel
theorem dX8_readOperands_343 : decode cX8_readOperands 343 = .ok (.invokevirtual 88, 3) := by decide +kernel
theorem dX8_readOperands_346 : decode cX8_readOperands 346 = .ok (.ireturn, 1) := by decide +kernel
theorem dX8_isRefused_0 : decode cX8_isRefused 0 = .ok (.getstatic 138, 3) := by decide +kernel
theorem dX8_isRefused_3 : decode cX8_isRefused 3 = .ok (.aload_n 1, 1) := by decide +kernel
theorem dX8_isRefused_4 : decode cX8_isRefused 4 = .ok (.invokevirtual 143, 3) := by decide +kernel
theorem dX8_isRefused_7 : decode cX8_isRefused 7 = .ok (.iaload, 1) := by decide +kernel
theorem dX8_isRefused_8 : decode cX8_isRefused 8 = .ok (.tableswitch 215 1 14 #[72, 88, 215, 215, 123, 147, 123, 215, 215, 104, 215, 175, 215, 191], 72) := by decide +kernel
theorem dX8_isRefused_80 : decode cX8_isRefused 80 = .ok (.aload_n 0, 1) := by decide +kernel
theorem dX8_isRefused_81 : decode cX8_isRefused 81 = .ok (.getfield 21, 3) := by decide +kernel
theorem dX8_isRefused_84 : decode cX8_isRefused 84 = .ok (.invokevirtual 183, 3) := by decide +kernel
theorem dX8_isRefused_87 : decode cX8_isRefused 87 = .ok (.ifCond .ne 7, 3) := by decide +kernel
theorem dX8_isRefused_90 : decode cX8_isRefused 90 = .ok (.iconst 1, 1) := by decide +kernel
theorem dX8_isRefused_91 : decode cX8_isRefused 91 = .ok (.goto 4, 3) := by decide +kernel
theorem dX8_isRefused_94 : decode cX8_isRefused 94 = .ok (.iconst 0, 1) := by decide +kernel
theorem dX8_isRefused_95 : decode cX8_isRefused 95 = .ok (.ireturn, 1) := by decide +kernel
theorem dX8_isRefused_96 : decode cX8_isRefused 96 = .ok (.aload_n 0, 1) := by decide +kernel
theorem dX8_isRefused_97 : decode cX8_isRefused 97 = .ok (.getfield 21, 3) := by decide +kernel
theorem dX8_isRefused_100 : decode cX8_isRefused 100 = .ok (.aload_n 0, 1) := by decide +kernel
theorem dX8_isRefused_101 : decode cX8_isRefused 101 = .ok (.iconst 0, 1) := by decide +kernel
theorem dX8_isRefused_102 : decode cX8_isRefused 102 = .ok (.invokevirtual 134, 3) := by decide +kernel
theorem dX8_isRefused_105 : decode cX8_isRefused 105 = .ok (.invokevirtual 150, 3) := by decide +kernel
theorem dX8_isRefused_108 : decode cX8_isRefused 108 = .ok (.invokevirtual 186, 3) := by decide +kernel
theorem dX8_isRefused_111 : decode cX8_isRefused 111 = .ok (.ireturn, 1) := by decide +kernel
theorem dX8_isRefused_112 : decode cX8_isRefused 112 = .ok (.aload_n 0, 1) := by decide +kernel
theorem dX8_isRefused_113 : decode cX8_isRefused 113 = .ok (.getfield 21, 3) := by decide +kernel
theorem dX8_isRefused_116 : decode cX8_isRefused 116 = .ok (.getfield 159, 3) := by decide +kernel
theorem dX8_isRefused_119 : decode cX8_isRefused 119 = .ok (.invokevirtual 189, 3) := by decide +kernel
theorem dX8_isRefused_122 : decode cX8_isRefused 122 = .ok (.ifCond .ne 7, 3) := by decide +kernel
theorem dX8_isRefused_125 : decode cX8_isRefused 125 = .ok (.iconst 1, 1) := by decide +kernel
theorem dX8_isRefused_126 : decode cX8_isRefused 126 = .ok (.goto 4, 3) := by decide +kernel
theorem dX8_isRefused_129 : decode cX8_isRefused 129 = .ok (.iconst 0, 1) := by decide +kernel
theorem dX8_isRefused_130 : decode cX8_isRefused 130 = .ok (.ireturn, 1) := by decide +kernel
theorem dX8_isRefused_131 : decode cX8_isRefused 131 = .ok (.aload_n 0, 1) := by decide +kernel
theorem dX8_isRefused_132 : decode cX8_isRefused 132 = .ok (.getfield 21, 3) := by decide +kernel
theorem dX8_isRefused_135 : decode cX8_isRefused 135 = .ok (.aload_n 0, 1) := by decide +kernel
theorem dX8_isRefused_136 : decode cX8_isRefused 136 = .ok (.iconst 0, 1) := by decide +kernel
theorem dX8_isRefused_137 : decode cX8_isRefused 137 = .ok (.invokevirtual 134, 3) := by decide +kernel
theorem dX8_isRefused_140 : decode cX8_isRefused 140 = .ok (.invokevirtual 150, 3) := by decide +kernel
theorem dX8_isRefused_143 : decode cX8_isRefused 143 = .ok (.invokevirtual 186, 3) := by decide +kernel
theorem dX8_isRefused_146 : decode cX8_isRefused 146 = .ok (.ifCond .ne 7, 3) := by decide +kernel
theorem dX8_isRefused_149 : decode cX8_isRefused 149 = .ok (.iconst 1, 1) := by decide +kernel
theorem dX8_isRefused_150 : decode cX8_isRefused 150 = .ok (.goto 4, 3) := by decide +kernel
theorem dX8_isRefused_153 : decode cX8_isRefused 153 = .ok (.iconst 0, 1) := by decide +kernel
theorem dX8_isRefused_154 : decode cX8_isRefused 154 = .ok (.ireturn, 1) := by decide +kernel
theorem dX8_isRefused_155 : decode cX8_isRefused 155 = .ok (.aload_n 0, 1) := by decide +kernel
theorem dX8_isRefused_156 : decode cX8_isRefused 156 = .ok (.getfield 21, 3) := by decide +kernel
theorem dX8_isRefused_159 : decode cX8_isRefused 159 = .ok (.aload_n 0, 1) := by decide +kernel
theorem dX8_isRefused_160 : decode cX8_isRefused 160 = .ok (.getfield 21, 3) := by decide +kernel
theorem dX8_isRefused_163 : decode cX8_isRefused 163 = .ok (.aload_n 0, 1) := by decide +kernel
theorem dX8_isRefused_164 : decode cX8_isRefused 164 = .ok (.iconst 0, 1) := by decide +kernel
theorem dX8_isRefused_165 : decode cX8_isRefused 165 = .ok (.invokevirtual 134, 3) := by decide +kernel
theorem dX8_isRefused_168 : decode cX8_isRefused 168 = .ok (.invokevirtual 150, 3) := by decide +kernel
theorem dX8_isRefused_171 : decode cX8_isRefused 171 = .ok (.invokevirtual 192, 3) := by decide +kernel
theorem dX8_isRefused_174 : decode cX8_isRefused 174 = .ok (.ifCond .eq 7, 3) := by decide +kernel
theorem dX8_isRefused_177 : decode cX8_isRefused 177 = .ok (.iconst 1, 1) := by decide +kernel
theorem dX8_isRefused_178 : decode cX8_isRefused 178 = .ok (.goto 4, 3) := by decide +kernel
theorem dX8_isRefused_181 : decode cX8_isRefused 181 = .ok (.iconst 0, 1) := by decide +kernel
theorem dX8_isRefused_182 : decode cX8_isRefused 182 = .ok (.ireturn, 1) := by decide +kernel
theorem dX8_isRefused_183 : decode cX8_isRefused 183 = .ok (.aload_n 0, 1) := by decide +kernel
theorem dX8_isRefused_184 : decode cX8_isRefused 184 = .ok (.getfield 21, 3) := by decide +kernel
theorem dX8_isRefused_187 : decode cX8_isRefused 187 = .ok (.invokevirtual 196, 3) := by decide +kernel
theorem dX8_isRefused_190 : decode cX8_isRefused 190 = .ok (.ifCond .ne 7, 3) := by decide +kernel
theorem dX8_isRefused_193 : decode cX8_isRefused 193 = .ok (.iconst 1, 1) := by decide +kernel
theorem dX8_isRefused_194 : decode cX8_isRefused 194 = .ok (.goto 4, 3) := by decide +kernel
theorem dX8_isRefused_197 : decode cX8_isRefused 197 = .ok (.iconst 0, 1) := by decide +kernel
theorem dX8_isRefused_198 : decode cX8_isRefused 198 = .ok (.ireturn, 1) := by decide +kernel
theorem dX8_isRefused_199 : decode cX8_isRefused 199 = .ok (.aload_n 0, 1) := by decide +kernel
theorem dX8_isRefused_200 : decode cX8_isRefused 200 = .ok (.getfield 21, 3) := by decide +kernel
theorem dX8_isRefused_203 : decode cX8_isRefused 203 = .ok (.getfield 159, 3) := by decide +kernel
theorem dX8_isRefused_206 : decode cX8_isRefused 206 = .ok (.aload_n 0, 1) := by decide +kernel
theorem dX8_isRefused_207 : decode cX8_isRefused 207 = .ok (.iconst 0, 1) := by decide +kernel
theorem dX8_isRefused_208 : decode cX8_isRefused 208 = .ok (.invokevirtual 134, 3) := by decide +kernel
theorem dX8_isRefused_211 : decode cX8_isRefused 211 = .ok (.invokevirtual 199, 3) := by decide +kernel
theorem dX8_isRefused_214 : decode cX8_isRefused 214 = .ok (.ifCond .ne 7, 3) := by decide +kernel
theorem dX8_isRefused_217 : decode cX8_isRefused 217 = .ok (.iconst 1, 1) := by decide +kernel
theorem dX8_isRefused_218 : decode cX8_isRefused 218 = .ok (.goto 4, 3) := by decide +kernel
theorem dX8_isRefused_221 : decode cX8_isRefused 221 = .ok (.iconst 0, 1) := by decide +kernel
theorem dX8_isRefused_222 : decode cX8_isRefused 222 = .ok (.ireturn, 1) := by decide +kernel
theorem dX8_isRefused_223 : decode cX8_isRefused 223 = .ok (.iconst 0, 1) := by decide +kernel
theorem dX8_isRefused_224 : decode cX8_isRefused 224 = .ok (.ireturn, 1) := by decide +kernel
theorem dX8_execute_0 : decode cX8_execute 0 = .ok (.aload_n 0, 1) := by decide +kernel
theorem dX8_execute_1 : decode cX8_execute 1 = .ok (.getfield 21, 3) := by decide +kernel
theorem dX8_execute_4 : decode cX8_execute 4 = .ok (.aload_n 0, 1) := by decide +kernel
theorem dX8_execute_5 : decode cX8_execute 5 = .ok (.iconst 0, 1) := by decide +kernel
theorem dX8_execute_6 : decode cX8_execute 6 = .ok (.invokevirtual 134, 3) := by decide +kernel
theorem dX8_execute_9 : decode cX8_execute 9 = .ok (.invokevirtual 150, 3) := by decide +kernel
theorem dX8_execute_12 : decode cX8_execute 12 = .ok (.astore_n 2, 1) := by decide +kernel
theorem dX8_execute_13 : decode cX8_execute 13 = .ok (.getstatic 138, 3) := by decide +kernel
theorem dX8_execute_16 : decode cX8_execute 16 = .ok (.aload_n 1, 1) := by decide +kernel
theorem dX8_execute_17 : decode cX8_execute 17 = .ok (.invokevirtual 143, 3) := by decide +kernel
theorem dX8_execute_20 : decode cX8_execute 20 = .ok (.iaload, 1) := by decide +kernel
theorem dX8_execute_21 : decode cX8_execute 21 = .ok (.tableswitch 310 1 14 #[71, 87, 108, 120, 213, 220, 232, 139, 157, 175, 193, 244, 276, 295], 71) := by decide +kernel
theorem dX8_execute_92 : decode cX8_execute 92 = .ok (.aload_n 0, 1) := by decide +kernel
theorem dX8_execute_93 : decode cX8_execute 93 = .ok (.getfield 21, 3) := by decide +kernel
theorem dX8_execute_96 : decode cX8_execute 96 = .ok (.aload_n 0, 1) := by decide +kernel
theorem dX8_execute_97 : decode cX8_execute 97 = .ok (.iconst 0, 1) := by decide +kernel
theorem dX8_execute_98 : decode cX8_execute 98 = .ok (.invokevirtual 134, 3) := by decide +kernel
theorem dX8_execute_101 : decode cX8_execute 101 = .ok (.invokevirtual 202, 3) := by decide +kernel
theorem dX8_execute_104 : decode cX8_execute 104 = .ok (.pop, 1) := by decide +kernel
theorem dX8_execute_105 : decode cX8_execute 105 = .ok (.goto 226, 3) := by decide +kernel
theorem dX8_execute_108 : decode cX8_execute 108 = .ok (.aload_n 0, 1) := by decide +kernel
theorem dX8_execute_109 : decode cX8_execute 109 = .ok (.getfield 21, 3) := by decide +kernel
theorem dX8_execute_112 : decode cX8_execute 112 = .ok (.aload_n 2, 1) := by decide +kernel
theorem dX8_execute_113 : decode cX8_execute 113 = .ok (.aload_n 0, 1) := by decide +kernel
theorem dX8_execute_114 : decode cX8_execute 114 = .ok (.iconst 1, 1) := by decide +kernel
theorem dX8_execute_115 : decode cX8_execute 115 = .ok (.invokevirtual 134, 3) := by decide +kernel
theorem dX8_execute_118 : decode cX8_execute 118 = .ok (.aload_n 0, 1) := by decide +kernel
theorem dX8_execute_119 : decode cX8_execute 119 = .ok (.iconst 2, 1) := by decide +kernel
theorem dX8_execute_120 : decode cX8_execute 120 = .ok (.invokevirtual 134, 3) := by decide +kernel
theorem dX8_execute_123 : decode cX8_execute 123 = .ok (.invokevirtual 205, 3) := by decide +kernel
theorem dX8_execute_126 : decode cX8_execute 126 = .ok (.goto 205, 3) := by decide +kernel
theorem dX8_execute_129 : decode cX8_execute 129 = .ok (.aload_n 2, 1) := by decide +kernel
theorem dX8_execute_130 : decode cX8_execute 130 = .ok (.aload_n 0, 1) := by decide +kernel
theorem dX8_execute_131 : decode cX8_execute 131 = .ok (.iconst 1, 1) := by decide +kernel
theorem dX8_execute_132 : decode cX8_execute 132 = .ok (.invokevirtual 134, 3) := by decide +kernel
theorem dX8_execute_135 : decode cX8_execute 135 = .ok (.putfield 209, 3) := by decide +kernel
theorem dX8_execute_138 : decode cX8_execute 138 = .ok (.goto 193, 3) := by decide +kernel
theorem dX8_execute_141 : decode cX8_execute 141 = .ok (.aload_n 2, 1) := by decide +kernel
theorem dX8_execute_142 : decode cX8_execute 142 = .ok (.aload_n 2, 1) := by decide +kernel
theorem dX8_execute_143 : decode cX8_execute 143 = .ok (.getfield 212, 3) := by decide +kernel
theorem dX8_execute_146 : decode cX8_execute 146 = .ok (.ifCond .ne 7, 3) := by decide +kernel
theorem dX8_execute_149 : decode cX8_execute 149 = .ok (.iconst 1, 1) := by decide +kernel
theorem dX8_execute_150 : decode cX8_execute 150 = .ok (.goto 4, 3) := by decide +kernel
theorem dX8_execute_153 : decode cX8_execute 153 = .ok (.iconst 0, 1) := by decide +kernel
theorem dX8_execute_154 : decode cX8_execute 154 = .ok (.putfield 212, 3) := by decide +kernel
theorem dX8_execute_157 : decode cX8_execute 157 = .ok (.goto 174, 3) := by decide +kernel
theorem dX8_execute_160 : decode cX8_execute 160 = .ok (.aload_n 0, 1) := by decide +kernel
theorem dX8_execute_161 : decode cX8_execute 161 = .ok (.getfield 21, 3) := by decide +kernel
theorem dX8_execute_164 : decode cX8_execute 164 = .ok (.getfield 159, 3) := by decide +kernel
theorem dX8_execute_167 : decode cX8_execute 167 = .ok (.aload_n 0, 1) := by decide +kernel
theorem dX8_execute_168 : decode cX8_execute 168 = .ok (.iconst 0, 1) := by decide +kernel
theorem dX8_execute_169 : decode cX8_execute 169 = .ok (.invokevirtual 134, 3) := by decide +kernel
theorem dX8_execute_172 : decode cX8_execute 172 = .ok (.putfield 216, 3) := by decide +kernel
theorem dX8_execute_175 : decode cX8_execute 175 = .ok (.goto 156, 3) := by decide +kernel
theorem dX8_execute_178 : decode cX8_execute 178 = .ok (.aload_n 0, 1) := by decide +kernel
theorem dX8_execute_179 : decode cX8_execute 179 = .ok (.getfield 21, 3) := by decide +kernel
theorem dX8_execute_182 : decode cX8_execute 182 = .ok (.getfield 159, 3) := by decide +kernel
theorem dX8_execute_185 : decode cX8_execute 185 = .ok (.aload_n 0, 1) := by decide +kernel
theorem dX8_execute_186 : decode cX8_execute 186 = .ok (.iconst 0, 1) := by decide +kernel
theorem dX8_execute_187 : decode cX8_execute 187 = .ok (.invokevirtual 134, 3) := by decide +kernel
theorem dX8_execute_190 : decode cX8_execute 190 = .ok (.putfield 219, 3) := by decide +kernel
theorem dX8_execute_193 : decode cX8_execute 193 = .ok (.goto 138, 3) := by decide +kernel
theorem dX8_execute_196 : decode cX8_execute 196 = .ok (.aload_n 0, 1) := by decide +kernel
theorem dX8_execute_197 : decode cX8_execute 197 = .ok (.getfield 21, 3) := by decide +kernel
theorem dX8_execute_200 : decode cX8_execute 200 = .ok (.getfield 159, 3) := by decide +kernel
theorem dX8_execute_203 : decode cX8_execute 203 = .ok (.aload_n 0, 1) := by decide +kernel
theorem dX8_execute_204 : decode cX8_execute 204 = .ok (.iconst 0, 1) := by decide +kernel
theorem dX8_execute_205 : decode cX8_execute 205 = .ok (.invokevirtual 134, 3) := by decide +kernel
theorem dX8_execute_208 : decode cX8_execute 208 = .ok (.invokevirtual 222, 3) := by decide +kernel
theorem dX8_execute_211 : decode cX8_execute 211 = .ok (.goto 120, 3) := by decide +kernel
theorem dX8_execute_214 : decode cX8_execute 214 = .ok (.aload_n 0, 1) := by decide +kernel
theorem dX8_execute_215 : decode cX8_execute 215 = .ok (.getfield 21, 3) := by decide +kernel
theorem dX8_execute_218 : decode cX8_execute 218 = .ok (.aload_n 0, 1) := by decide +kernel
theorem dX8_execute_219 : decode cX8_execute 219 = .ok (.iconst 0, 1) := by decide +kernel
theorem dX8_execute_220 : decode cX8_execute 220 = .ok (.invokevirtual 134, 3) := by decide +kernel
theorem dX8_execute_223 : decode cX8_execute 223 = .ok (.aload_n 0, 1) := by decide +kernel
theorem dX8_execute_224 : decode cX8_execute 224 = .ok (.iconst 1, 1) := by decide +kernel
theorem dX8_execute_225 : decode cX8_execute 225 = .ok (.invokevirtual 134, 3) := by decide +kernel
theorem dX8_execute_228 : decode cX8_execute 228 = .ok (.invokevirtual 226, 3) := by decide +kernel
theorem dX8_execute_231 : decode cX8_execute 231 = .ok (.goto 100, 3) := by decide +kernel
theorem dX8_execute_234 : decode cX8_execute 234 = .ok (.aload_n 2, 1) := by decide +kernel
theorem dX8_execute_235 : decode cX8_execute 235 = .ok (.invokevirtual 230, 3) := by decide +kernel
theorem dX8_execute_238 : decode cX8_execute 238 = .ok (.goto 93, 3) := by decide +kernel
theorem dX8_execute_241 : decode cX8_execute 241 = .ok (.aload_n 0, 1) := by decide +kernel
theorem dX8_execute_242 : decode cX8_execute 242 = .ok (.getfield 21, 3) := by decide +kernel
theorem dX8_execute_245 : decode cX8_execute 245 = .ok (.aload_n 2, 1) := by decide +kernel
theorem dX8_execute_246 : decode cX8_execute 246 = .ok (.invokevirtual 233, 3) := by decide +kernel
theorem dX8_execute_249 : decode cX8_execute 249 = .ok (.pop, 1) := by decide +kernel
theorem dX8_execute_250 : decode cX8_execute 250 = .ok (.goto 81, 3) := by decide +kernel
theorem dX8_execute_253 : decode cX8_execute 253 = .ok (.aload_n 0, 1) := by decide +kernel
theorem dX8_execute_254 : decode cX8_execute 254 = .ok (.getfield 21, 3) := by decide +kernel
theorem dX8_execute_257 : decode cX8_execute 257 = .ok (.aload_n 2, 1) := by decide +kernel
theorem dX8_execute_258 : decode cX8_execute 258 = .ok (.invokevirtual 236, 3) := by decide +kernel
theorem dX8_execute_261 : decode cX8_execute 261 = .ok (.pop, 1) := by decide +kernel
theorem dX8_execute_262 : decode cX8_execute 262 = .ok (.goto 69, 3) := by decide +kernel
theorem dX8_execute_265 : decode cX8_execute 265 = .ok (.aload_n 0, 1) := by decide +kernel
theorem dX8_execute_266 : decode cX8_execute 266 = .ok (.getfield 21, 3) := by decide +kernel
theorem dX8_execute_269 : decode cX8_execute 269 = .ok (.aload_n 0, 1) := by decide +kernel
theorem dX8_execute_270 : decode cX8_execute 270 = .ok (.iconst 0, 1) := by decide +kernel
theorem dX8_execute_271 : decode cX8_execute 271 = .ok (.invokevirtual 134, 3) := by decide +kernel
theorem dX8_execute_274 : decode cX8_execute 274 = .ok (.aload_n 0, 1) := by decide +kernel
theorem dX8_execute_275 : decode cX8_execute 275 = .ok (.iconst 1, 1) := by decide +kernel
theorem dX8_execute_276 : decode cX8_execute 276 = .ok (.invokevirtual 134, 3) := by decide +kernel
theorem dX8_execute_279 : decode cX8_execute 279 = .ok (.aload_n 0, 1) := by decide +kernel
theorem dX8_execute_280 : decode cX8_execute 280 = .ok (.iconst 2, 1) := by decide +kernel
theorem dX8_execute_281 : decode cX8_execute 281 = .ok (.invokevirtual 134, 3) := by decide +kernel
theorem dX8_execute_284 : decode cX8_execute 284 = .ok (.aload_n 0, 1) := by decide +kernel
theorem dX8_execute_285 : decode cX8_execute 285 = .ok (.iconst 3, 1) := by decide +kernel
theorem dX8_execute_286 : decode cX8_execute 286 = .ok (.invokevirtual 134, 3) := by decide +kernel
theorem dX8_execute_289 : decode cX8_execute 289 = .ok (.imul, 1) := by decide +kernel
theorem dX8_execute_290 : decode cX8_execute 290 = .ok (.invokevirtual 239, 3) := by decide +kernel
theorem dX8_execute_293 : decode cX8_execute 293 = .ok (.pop, 1) := by decide +kernel
theorem dX8_execute_294 : decode cX8_execute 294 = .ok (.goto 37, 3) := by decide +kernel
theorem dX8_execute_297 : decode cX8_execute 297 = .ok (.aload_n 0, 1) := by decide +kernel
theorem dX8_execute_298 : decode cX8_execute 298 = .ok (.getfield 21, 3) := by decide +kernel
theorem dX8_execute_301 : decode cX8_execute 301 = .ok (.aload_n 0, 1) := by decide +kernel
theorem dX8_execute_302 : decode cX8_execute 302 = .ok (.iconst 0, 1) := by decide +kernel
theorem dX8_execute_303 : decode cX8_execute 303 = .ok (.invokevirtual 134, 3) := by decide +kernel
theorem dX8_execute_306 : decode cX8_execute 306 = .ok (.invokevirtual 243, 3) := by decide +kernel
theorem dX8_execute_309 : decode cX8_execute 309 = .ok (.iconst 0, 1) := by decide +kernel
theorem dX8_execute_310 : decode cX8_execute 310 = .ok (.putfield 247, 3) := by decide +kernel
theorem dX8_execute_313 : decode cX8_execute 313 = .ok (.goto 18, 3) := by decide +kernel
theorem dX8_execute_316 : decode cX8_execute 316 = .ok (.aload_n 0, 1) := by decide +kernel
theorem dX8_execute_317 : decode cX8_execute 317 = .ok (.getfield 21, 3) := by decide +kernel
theorem dX8_execute_320 : decode cX8_execute 320 = .ok (.aload_n 0, 1) := by decide +kernel
theorem dX8_execute_321 : decode cX8_execute 321 = .ok (.iconst 0, 1) := by decide +kernel
theorem dX8_execute_322 : decode cX8_execute 322 = .ok (.invokevirtual 134, 3) := by decide +kernel
theorem dX8_execute_325 : decode cX8_execute 325 = .ok (.invokevirtual 252, 3) := by decide +kernel
theorem dX8_execute_328 : decode cX8_execute 328 = .ok (.goto 3, 3) := by decide +kernel
theorem dX8_execute_331 : decode cX8_execute 331 = .ok (.return_, 1) := by decide +kernel
theorem dX8_readFirstWord_0 : decode cX8_readFirstWord 0 = .ok (.aload_n 0, 1) := by decide +kernel
theorem dX8_readFirstWord_1 : decode cX8_readFirstWord 1 = .ok (.invokevirtual 72, 3) := by decide +kernel
theorem dX8_readFirstWord_4 : decode cX8_readFirstWord 4 = .ok (.aload_n 0, 1) := by decide +kernel
theorem dX8_readFirstWord_5 : decode cX8_readFirstWord 5 = .ok (.ldc 255, 2) := by decide +kernel
theorem dX8_readFirstWord_7 : decode cX8_readFirstWord 7 = .ok (.invokevirtual 123, 3) := by decide +kernel
theorem dX8_readFirstWord_10 : decode cX8_readFirstWord 10 = .ok (.ifCond .ne 11, 3) := by decide +kernel
theorem dX8_readFirstWord_13 : decode cX8_readFirstWord 13 = .ok (.aload_n 0, 1) := by decide +kernel
theorem dX8_readFirstWord_14 : decode cX8_readFirstWord 14 = .ok (.iconst 1, 1) := by decide +kernel
theorem dX8_readFirstWord_15 : decode cX8_readFirstWord 15 = .ok (.invokevirtual 88, 3) := by decide +kernel
theorem dX8_readFirstWord_18 : decode cX8_readFirstWord 18 = .ok (.ifCond .eq 7, 3) := by decide +kernel
theorem dX8_readFirstWord_21 : decode cX8_readFirstWord 21 = .ok (.iconst 1, 1) := by decide +kernel
theorem dX8_readFirstWord_22 : decode cX8_readFirstWord 22 = .ok (.goto 4, 3) := by decide +kernel
theorem dX8_readFirstWord_25 : decode cX8_readFirstWord 25 = .ok (.iconst 0, 1) := by decide +kernel
theorem dX8_readFirstWord_26 : decode cX8_readFirstWord 26 = .ok (.ireturn, 1) := by decide +kernel
theorem dX8_readMark_0 : decode cX8_readMark 0 = .ok (.aload_n 0, 1) := by decide +kernel
theorem dX8_readMark_1 : decode cX8_readMark 1 = .ok (.invokevirtual 72, 3) := by decide +kernel
theorem dX8_readMark_4 : decode cX8_readMark 4 = .ok (.aload_n 0, 1) := by decide +kernel
theorem dX8_readMark_5 : decode cX8_readMark 5 = .ok (.getfield 31, 3) := by decide +kernel
theorem dX8_readMark_8 : decode cX8_readMark 8 = .ok (.aload_n 1, 1) := by decide +kernel
theorem dX8_readMark_9 : decode cX8_readMark 9 = .ok (.if_acmp .eq 11, 3) := by decide +kernel
theorem dX8_readMark_12 : decode cX8_readMark 12 = .ok (.aload_n 0, 1) := by decide +kernel
theorem dX8_readMark_13 : decode cX8_readMark 13 = .ok (.iconst 1, 1) := by decide +kernel
theorem dX8_readMark_14 : decode cX8_readMark 14 = .ok (.invokevirtual 88, 3) := by decide +kernel
theorem dX8_readMark_17 : decode cX8_readMark 17 = .ok (.ifCond .eq 7, 3) := by decide +kernel
theorem dX8_readMark_20 : decode cX8_readMark 20 = .ok (.iconst 1, 1) := by decide +kernel
theorem dX8_readMark_21 : decode cX8_readMark 21 = .ok (.goto 4, 3) := by decide +kernel
theorem dX8_readMark_24 : decode cX8_readMark 24 = .ok (.iconst 0, 1) := by decide +kernel
theorem dX8_readMark_25 : decode cX8_readMark 25 = .ok (.ireturn, 1) := by decide +kernel
theorem dX8_readNumber_0 : decode cX8_readNumber 0 = .ok (.aload_n 0, 1) := by decide +kernel
theorem dX8_readNumber_1 : decode cX8_readNumber 1 = .ok (.invokevirtual 72, 3) := by decide +kernel
theorem dX8_readNumber_4 : decode cX8_readNumber 4 = .ok (.aload_n 0, 1) := by decide +kernel
theorem dX8_readNumber_5 : decode cX8_readNumber 5 = .ok (.getfield 31, 3) := by decide +kernel
theorem dX8_readNumber_8 : decode cX8_readNumber 8 = .ok (.getstatic 257, 3) := by decide +kernel
theorem dX8_readNumber_11 : decode cX8_readNumber 11 = .ok (.if_acmp .eq 9, 3) := by decide +kernel
theorem dX8_readNumber_14 : decode cX8_readNumber 14 = .ok (.aload_n 0, 1) := by decide +kernel
theorem dX8_readNumber_15 : decode cX8_readNumber 15 = .ok (.iconst 1, 1) := by decide +kernel
theorem dX8_readNumber_16 : decode cX8_readNumber 16 = .ok (.invokevirtual 88, 3) := by decide +kernel
theorem dX8_readNumber_19 : decode cX8_readNumber 19 = .ok (.ireturn, 1) := by decide +kernel
theorem dX8_readNumber_20 : decode cX8_readNumber 20 = .ok (.aload_n 0, 1) := by decide +kernel
theorem dX8_readNumber_21 : decode cX8_readNumber 21 = .ok (.getfield 260, 3) := by decide +kernel
theorem dX8_readNumber_24 : decode cX8_readNumber 24 = .ok (.iload_n 1, 1) := by decide +kernel
theorem dX8_readNumber_25 : decode cX8_readNumber 25 = .ok (.if_icmp .lt 11, 3) := by decide +kernel
theorem dX8_readNumber_28 : decode cX8_readNumber 28 = .ok (.aload_n 0, 1) := by decide +kernel
theorem dX8_readNumber_29 : decode cX8_readNumber 29 = .ok (.getfield 260, 3) := by decide +kernel
theorem dX8_readNumber_32 : decode cX8_readNumber 32 = .ok (.iload_n 2, 1) := by decide +kernel
theorem dX8_readNumber_33 : decode cX8_readNumber 33 = .ok (.if_icmp .le 9, 3) := by decide +kernel
theorem dX8_readNumber_36 : decode cX8_readNumber 36 = .ok (.aload_n 0, 1) := by decide +kernel
theorem dX8_readNumber_37 : decode cX8_readNumber 37 = .ok (.iconst 2, 1) := by decide +kernel
theorem dX8_readNumber_38 : decode cX8_readNumber 38 = .ok (.invokevirtual 88, 3) := by decide +kernel
theorem dX8_readNumber_41 : decode cX8_readNumber 41 = .ok (.ireturn, 1) := by decide +kernel
theorem dX8_readNumber_42 : decode cX8_readNumber 42 = .ok (.aload_n 0, 1) := by decide +kernel
theorem dX8_readNumber_43 : decode cX8_readNumber 43 = .ok (.aload_n 0, 1) := by decide +kernel
theorem dX8_readNumber_44 : decode cX8_readNumber 44 = .ok (.getfield 260, 3) := by decide +kernel
theorem dX8_readNumber_47 : decode cX8_readNumber 47 = .ok (.invokevirtual 263, 3) := by decide +kernel
theorem dX8_readNumber_50 : decode cX8_readNumber 50 = .ok (.ireturn, 1) := by decide +kernel
theorem dX8_readChoice_0 : decode cX8_readChoice 0 = .ok (.aload_n 0, 1) := by decide +kernel
theorem dX8_readChoice_1 : decode cX8_readChoice 1 = .ok (.invokevirtual 72, 3) := by decide +kernel
theorem dX8_readChoice_4 : decode cX8_readChoice 4 = .ok (.aload_n 0, 1) := by decide +kernel
theorem dX8_readChoice_5 : decode cX8_readChoice 5 = .ok (.aload_n 1, 1) := by decide +kernel
theorem dX8_readChoice_6 : decode cX8_readChoice 6 = .ok (.invokevirtual 123, 3) := by decide +kernel
theorem dX8_readChoice_9 : decode cX8_readChoice 9 = .ok (.ifCond .eq 9, 3) := by decide +kernel
theorem dX8_readChoice_12 : decode cX8_readChoice 12 = .ok (.aload_n 0, 1) := by decide +kernel
theorem dX8_readChoice_13 : decode cX8_readChoice 13 = .ok (.iload_n 2, 1) := by decide +kernel
theorem dX8_readChoice_14 : decode cX8_readChoice 14 = .ok (.invokevirtual 263, 3) := by decide +kernel
theorem dX8_readChoice_17 : decode cX8_readChoice 17 = .ok (.ireturn, 1) := by decide +kernel
theorem dX8_readChoice_18 : decode cX8_readChoice 18 = .ok (.aload_n 0, 1) := by decide +kernel
theorem dX8_readChoice_19 : decode cX8_readChoice 19 = .ok (.aload_n 3, 1) := by decide +kernel
theorem dX8_readChoice_20 : decode cX8_readChoice 20 = .ok (.invokevirtual 123, 3) := by decide +kernel
theorem dX8_readChoice_23 : decode cX8_readChoice 23 = .ok (.ifCond .eq 12, 3) := by decide +kernel
theorem dX8_readChoice_26 : decode cX8_readChoice 26 = .ok (.aload_n 0, 1) := by decide +kernel
theorem dX8_readChoice_27 : decode cX8_readChoice 27 = .ok (.iload 4, 2) := by decide +kernel
theorem dX8_readChoice_29 : decode cX8_readChoice 29 = .ok (.invokevirtual 263, 3) := by decide +kernel
theorem dX8_readChoice_32 : decode cX8_readChoice 32 = .ok (.goto 8, 3) := by decide +kernel
theorem dX8_readChoice_35 : decode cX8_readChoice 35 = .ok (.aload_n 0, 1) := by decide +kernel
theorem dX8_readChoice_36 : decode cX8_readChoice 36 = .ok (.iconst 1, 1) := by decide +kernel
theorem dX8_readChoice_37 : decode cX8_readChoice 37 = .ok (.invokevirtual 88, 3) := by decide +kernel
theorem dX8_readChoice_40 : decode cX8_readChoice 40 = .ok (.ireturn, 1) := by decide +kernel
theorem dX8_keep_0 : decode cX8_keep 0 = .ok (.aload_n 0, 1) := by decide +kernel
theorem dX8_keep_1 : decode cX8_keep 1 = .ok (.getfield 92, 3) := by decide +kernel
theorem dX8_keep_4 : decode cX8_keep 4 = .ok (.ifCond .lt 31, 3) := by decide +kernel
theorem dX8_keep_7 : decode cX8_keep 7 = .ok (.aload_n 0, 1) := by decide +kernel
theorem dX8_keep_8 : decode cX8_keep 8 = .ok (.getfield 92, 3) := by decide +kernel
theorem dX8_keep_11 : decode cX8_keep 11 = .ok (.iconst 4, 1) := by decide +kernel
theorem dX8_keep_12 : decode cX8_keep 12 = .ok (.if_icmp .ge 23, 3) := by decide +kernel
theorem dX8_keep_15 : decode cX8_keep 15 = .ok (.aload_n 0, 1) := by decide +kernel
theorem dX8_keep_16 : decode cX8_keep 16 = .ok (.getfield 34, 3) := by decide +kernel
theorem dX8_keep_19 : decode cX8_keep 19 = .ok (.aload_n 0, 1) := by decide +kernel
theorem dX8_keep_20 : decode cX8_keep 20 = .ok (.getfield 92, 3) := by decide +kernel
theorem dX8_keep_23 : decode cX8_keep 23 = .ok (.iload_n 1, 1) := by decide +kernel
theorem dX8_keep_24 : decode cX8_keep 24 = .ok (.iastore, 1) := by decide +kernel
theorem dX8_keep_25 : decode cX8_keep 25 = .ok (.aload_n 0, 1) := by decide +kernel
theorem dX8_keep_26 : decode cX8_keep 26 = .ok (.dup, 1) := by decide +kernel
theorem dX8_keep_27 : decode cX8_keep 27 = .ok (.getfield 92, 3) := by decide +kernel
theorem dX8_keep_30 : decode cX8_keep 30 = .ok (.iconst 1, 1) := by decide +kernel
theorem dX8_keep_31 : decode cX8_keep 31 = .ok (.iadd, 1) := by decide +kernel
theorem dX8_keep_32 : decode cX8_keep 32 = .ok (.putfield 92, 3) := by decide +kernel
theorem dX8_keep_35 : decode cX8_keep 35 = .ok (.iconst 1, 1) := by decide +kernel
theorem dX8_keep_36 : decode cX8_keep 36 = .ok (.ireturn, 1) := by decide +kernel
theorem dX8_operand_0 : decode cX8_operand 0 = .ok (.iload_n 1, 1) := by decide +kernel
theorem dX8_operand_1 : decode cX8_operand 1 = .ok (.ifCond .lt 17, 3) := by decide +kernel
theorem dX8_operand_4 : decode cX8_operand 4 = .ok (.iload_n 1, 1) := by decide +kernel
theorem dX8_operand_5 : decode cX8_operand 5 = .ok (.iconst 4, 1) := by decide +kernel
theorem dX8_operand_6 : decode cX8_operand 6 = .ok (.if_icmp .ge 12, 3) := by decide +kernel
theorem dX8_operand_9 : decode cX8_operand 9 = .ok (.aload_n 0, 1) := by decide +kernel
theorem dX8_operand_10 : decode cX8_operand 10 = .ok (.getfield 34, 3) := by decide +kernel
theorem dX8_operand_13 : decode cX8_operand 13 = .ok (.iload_n 1, 1) := by decide +kernel
theorem dX8_operand_14 : decode cX8_operand 14 = .ok (.iaload, 1) := by decide +kernel
theorem dX8_operand_15 : decode cX8_operand 15 = .ok (.goto 4, 3) := by decide +kernel
theorem dX8_operand_18 : decode cX8_operand 18 = .ok (.iconst 0, 1) := by decide +kernel
theorem dX8_operand_19 : decode cX8_operand 19 = .ok (.ireturn, 1) := by decide +kernel
theorem dX8_fail_0 : decode cX8_fail 0 = .ok (.aload_n 0, 1) := by decide +kernel
theorem dX8_fail_1 : decode cX8_fail 1 = .ok (.iload_n 1, 1) := by decide +kernel
theorem dX8_fail_2 : decode cX8_fail 2 = .ok (.putfield 47, 3) := by decide +kernel
theorem dX8_fail_5 : decode cX8_fail 5 = .ok (.aload_n 0, 1) := by decide +kernel
theorem dX8_fail_6 : decode cX8_fail 6 = .ok (.aload_n 0, 1) := by decide +kernel
theorem dX8_fail_7 : decode cX8_fail 7 = .ok (.getfield 266, 3) := by decide +kernel
theorem dX8_fail_10 : decode cX8_fail 10 = .ok (.putfield 269, 3) := by decide +kernel
theorem dX8_fail_13 : decode cX8_fail 13 = .ok (.iconst 0, 1) := by decide +kernel
theorem dX8_fail_14 : decode cX8_fail 14 = .ok (.ireturn, 1) := by decide +kernel
theorem dX8_readToken_0 : decode cX8_readToken 0 = .ok (.aload_n 0, 1) := by decide +kernel
theorem dX8_readToken_1 : decode cX8_readToken 1 = .ok (.invokevirtual 272, 3) := by decide +kernel
theorem dX8_readToken_4 : decode cX8_readToken 4 = .ok (.aload_n 0, 1) := by decide +kernel
theorem dX8_readToken_5 : decode cX8_readToken 5 = .ok (.aload_n 0, 1) := by decide +kernel
theorem dX8_readToken_6 : decode cX8_readToken 6 = .ok (.getfield 51, 3) := by decide +kernel
theorem dX8_readToken_9 : decode cX8_readToken 9 = .ok (.putfield 266, 3) := by decide +kernel
theorem dX8_readToken_12 : decode cX8_readToken 12 = .ok (.aload_n 0, 1) := by decide +kernel
theorem dX8_readToken_13 : decode cX8_readToken 13 = .ok (.getfield 12, 3) := by decide +kernel
theorem dX8_readToken_16 : decode cX8_readToken 16 = .ok (.aload_n 0, 1) := by decide +kernel
theorem dX8_readToken_17 : decode cX8_readToken 17 = .ok (.getfield 51, 3) := by decide +kernel
theorem dX8_readToken_20 : decode cX8_readToken 20 = .ok (.invokevirtual 275, 3) := by decide +kernel
theorem dX8_readToken_23 : decode cX8_readToken 23 = .ok (.istore_n 1, 1) := by decide +kernel
theorem dX8_readToken_24 : decode cX8_readToken 24 = .ok (.iload_n 1, 1) := by decide +kernel
theorem dX8_readToken_25 : decode cX8_readToken 25 = .ok (.iconst (-1), 1) := by decide +kernel
theorem dX8_readToken_26 : decode cX8_readToken 26 = .ok (.if_icmp .ne 13, 3) := by decide +kernel
theorem dX8_readToken_29 : decode cX8_readToken 29 = .ok (.aload_n 0, 1) := by decide +kernel
theorem dX8_readToken_30 : decode cX8_readToken 30 = .ok (.getstatic 25, 3) := by decide +kernel
theorem dX8_readToken_33 : decode cX8_readToken 33 = .ok (.putfield 31, 3) := by decide +kernel
theorem dX8_readToken_36 : decode cX8_readToken 36 = .ok (.goto 49, 3) := by decide +kernel
theorem dX8_readToken_39 : decode cX8_readToken 39 = .ok (.iload_n 1, 1) := by decide +kernel
theorem dX8_readToken_40 : decode cX8_readToken 40 = .ok (.invokestatic 278, 3) := by decide +kernel
theorem dX8_readToken_43 : decode cX8_readToken 43 = .ok (.ifCond .eq 10, 3) := by decide +kernel
theorem dX8_readToken_46 : decode cX8_readToken 46 = .ok (.aload_n 0, 1) := by decide +kernel
theorem dX8_readToken_47 : decode cX8_readToken 47 = .ok (.invokevirtual 281, 3) := by decide +kernel
theorem dX8_readToken_50 : decode cX8_readToken 50 = .ok (.goto 35, 3) := by decide +kernel
theorem dX8_readToken_53 : decode cX8_readToken 53 = .ok (.iload_n 1, 1) := by decide +kernel
theorem dX8_readToken_54 : decode cX8_readToken 54 = .ok (.invokestatic 284, 3) := by decide +kernel
theorem dX8_readToken_57 : decode cX8_readToken 57 = .ok (.ifCond .eq 10, 3) := by decide +kernel
theorem dX8_readToken_60 : decode cX8_readToken 60 = .ok (.aload_n 0, 1) := by decide +kernel
theorem dX8_readToken_61 : decode cX8_readToken 61 = .ok (.invokevirtual 287, 3) := by decide +kernel
theorem dX8_readToken_64 : decode cX8_readToken 64 = .ok (.goto 21, 3) := by decide +kernel
theorem dX8_readToken_67 : decode cX8_readToken 67 = .ok (.aload_n 0, 1) := by decide +kernel
theorem dX8_readToken_68 : decode cX8_readToken 68 = .ok (.iload_n 1, 1) := by decide +kernel
theorem dX8_readToken_69 : decode cX8_readToken 69 = .ok (.invokestatic 290, 3) := by decide +kernel
theorem dX8_readToken_72 : decode cX8_readToken 72 = .ok (.putfield 31, 3) := by decide +kernel
theorem dX8_readToken_75 : decode cX8_readToken 75 = .ok (.aload_n 0, 1) := by decide +kernel
theorem dX8_readToken_76 : decode cX8_readToken 76 = .ok (.dup, 1) := by decide +kernel
theorem dX8_readToken_77 : decode cX8_readToken 77 = .ok (.getfield 51, 3) := by decide +kernel
theorem dX8_readToken_80 : decode cX8_readToken 80 = .ok (.iconst 1, 1) := by decide +kernel
theorem dX8_readToken_81 : decode cX8_readToken 81 = .ok (.iadd, 1) := by decide +kernel
theorem dX8_readToken_82 : decode cX8_readToken 82 = .ok (.putfield 51, 3) := by decide +kernel
theorem dX8_readToken_85 : decode cX8_readToken 85 = .ok (.return_, 1) := by decide +kernel
theorem dX8_skipBlanks_0 : decode cX8_skipBlanks 0 = .ok (.aload_n 0, 1) := by decide +kernel
theorem dX8_skipBlanks_1 : decode cX8_skipBlanks 1 = .ok (.getfield 12, 3) := by decide +kernel
theorem dX8_skipBlanks_4 : decode cX8_skipBlanks 4 = .ok (.aload_n 0, 1) := by decide +kernel
theorem dX8_skipBlanks_5 : decode cX8_skipBlanks 5 = .ok (.getfield 51, 3) := by decide +kernel
theorem dX8_skipBlanks_8 : decode cX8_skipBlanks 8 = .ok (.invokevirtual 275, 3) := by decide +kernel
theorem dX8_skipBlanks_11 : decode cX8_skipBlanks 11 = .ok (.istore_n 1, 1) := by decide +kernel
theorem dX8_skipBlanks_12 : decode cX8_skipBlanks 12 = .ok (.aload_n 0, 1) := by decide +kernel
theorem dX8_skipBlanks_13 : decode cX8_skipBlanks 13 = .ok (.getfield 51, 3) := by decide +kernel
theorem dX8_skipBlanks_16 : decode cX8_skipBlanks 16 = .ok (.aload_n 0, 1) := by decide +kernel
theorem dX8_skipBlanks_17 : decode cX8_skipBlanks 17 = .ok (.getfield 12, 3) := by decide +kernel
theorem dX8_skipBlanks_20 : decode cX8_skipBlanks 20 = .ok (.getfield 294, 3) := by decide +kernel
theorem dX8_skipBlanks_23 : decode cX8_skipBlanks 23 = .ok (.if_icmp .ge 40, 3) := by decide +kernel
theorem dX8_skipBlanks_26 : decode cX8_skipBlanks 26 = .ok (.iload_n 1, 1) := by decide +kernel
theorem dX8_skipBlanks_27 : decode cX8_skipBlanks 27 = .ok (.bipush 32, 2) := by decide +kernel
theorem dX8_skipBlanks_29 : decode cX8_skipBlanks 29 = .ok (.if_icmp .eq 9, 3) := by decide +kernel
theorem dX8_skipBlanks_32 : decode cX8_skipBlanks 32 = .ok (.iload_n 1, 1) := by decide +kernel
theorem dX8_skipBlanks_33 : decode cX8_skipBlanks 33 = .ok (.bipush 10, 2) := by decide +kernel
theorem dX8_skipBlanks_35 : decode cX8_skipBlanks 35 = .ok (.if_icmp .ne 28, 3) := by decide +kernel
theorem dX8_skipBlanks_38 : decode cX8_skipBlanks 38 = .ok (.aload_n 0, 1) := by decide +kernel
theorem dX8_skipBlanks_39 : decode cX8_skipBlanks 39 = .ok (.dup, 1) := by decide +kernel
theorem dX8_skipBlanks_40 : decode cX8_skipBlanks 40 = .ok (.getfield 51, 3) := by decide +kernel
theorem dX8_skipBlanks_43 : decode cX8_skipBlanks 43 = .ok (.iconst 1, 1) := by decide +kernel
theorem dX8_skipBlanks_44 : decode cX8_skipBlanks 44 = .ok (.iadd, 1) := by decide +kernel
theorem dX8_skipBlanks_45 : decode cX8_skipBlanks 45 = .ok (.putfield 51, 3) := by decide +kernel
theorem dX8_skipBlanks_48 : decode cX8_skipBlanks 48 = .ok (.aload_n 0, 1) := by decide +kernel
theorem dX8_skipBlanks_49 : decode cX8_skipBlanks 49 = .ok (.getfield 12, 3) := by decide +kernel
theorem dX8_skipBlanks_52 : decode cX8_skipBlanks 52 = .ok (.aload_n 0, 1) := by decide +kernel
theorem dX8_skipBlanks_53 : decode cX8_skipBlanks 53 = .ok (.getfield 51, 3) := by decide +kernel
theorem dX8_skipBlanks_56 : decode cX8_skipBlanks 56 = .ok (.invokevirtual 275, 3) := by decide +kernel
theorem dX8_skipBlanks_59 : decode cX8_skipBlanks 59 = .ok (.istore_n 1, 1) := by decide +kernel
theorem dX8_skipBlanks_60 : decode cX8_skipBlanks 60 = .ok (.goto (-48), 3) := by decide +kernel
theorem dX8_skipBlanks_63 : decode cX8_skipBlanks 63 = .ok (.return_, 1) := by decide +kernel
theorem dX8_readDigits_0 : decode cX8_readDigits 0 = .ok (.aload_n 0, 1) := by decide +kernel
theorem dX8_readDigits_1 : decode cX8_readDigits 1 = .ok (.iconst 0, 1) := by decide +kernel
theorem dX8_readDigits_2 : decode cX8_readDigits 2 = .ok (.putfield 260, 3) := by decide +kernel
theorem dX8_readDigits_5 : decode cX8_readDigits 5 = .ok (.aload_n 0, 1) := by decide +kernel
theorem dX8_readDigits_6 : decode cX8_readDigits 6 = .ok (.getfield 12, 3) := by decide +kernel
theorem dX8_readDigits_9 : decode cX8_readDigits 9 = .ok (.aload_n 0, 1) := by decide +kernel
theorem dX8_readDigits_10 : decode cX8_readDigits 10 = .ok (.getfield 51, 3) := by decide +kernel
theorem dX8_readDigits_13 : decode cX8_readDigits 13 = .ok (.invokevirtual 275, 3) := by decide +kernel
theorem dX8_readDigits_16 : decode cX8_readDigits 16 = .ok (.istore_n 1, 1) := by decide +kernel
theorem dX8_readDigits_17 : decode cX8_readDigits 17 = .ok (.aload_n 0, 1) := by decide +kernel
theorem dX8_readDigits_18 : decode cX8_readDigits 18 = .ok (.getfield 51, 3) := by decide +kernel
theorem dX8_readDigits_21 : decode cX8_readDigits 21 = .ok (.aload_n 0, 1) := by decide +kernel
theorem dX8_readDigits_22 : decode cX8_readDigits 22 = .ok (.getfield 12, 3) := by decide +kernel
theorem dX8_readDigits_25 : decode cX8_readDigits 25 = .ok (.getfield 294, 3) := by decide +kernel
theorem dX8_readDigits_28 : decode cX8_readDigits 28 = .ok (.if_icmp .ge 51, 3) := by decide +kernel
theorem dX8_readDigits_31 : decode cX8_readDigits 31 = .ok (.iload_n 1, 1) := by decide +kernel
theorem dX8_readDigits_32 : decode cX8_readDigits 32 = .ok (.invokestatic 278, 3) := by decide +kernel
theorem dX8_readDigits_35 : decode cX8_readDigits 35 = .ok (.ifCond .eq 44, 3) := by decide +kernel
theorem dX8_readDigits_38 : decode cX8_readDigits 38 = .ok (.aload_n 0, 1) := by decide +kernel
theorem dX8_readDigits_39 : decode cX8_readDigits 39 = .ok (.aload_n 0, 1) := by decide +kernel
theorem dX8_readDigits_40 : decode cX8_readDigits 40 = .ok (.getfield 260, 3) := by decide +kernel
theorem dX8_readDigits_43 : decode cX8_readDigits 43 = .ok (.bipush 10, 2) := by decide +kernel
theorem dX8_readDigits_45 : decode cX8_readDigits 45 = .ok (.imul, 1) := by decide +kernel
theorem dX8_readDigits_46 : decode cX8_readDigits 46 = .ok (.iload_n 1, 1) := by decide +kernel
theorem dX8_readDigits_47 : decode cX8_readDigits 47 = .ok (.iadd, 1) := by decide +kernel
theorem dX8_readDigits_48 : decode cX8_readDigits 48 = .ok (.bipush 48, 2) := by decide +kernel
theorem dX8_readDigits_50 : decode cX8_readDigits 50 = .ok (.isub, 1) := by decide +kernel
theorem dX8_readDigits_51 : decode cX8_readDigits 51 = .ok (.putfield 260, 3) := by decide +kernel
theorem dX8_readDigits_54 : decode cX8_readDigits 54 = .ok (.aload_n 0, 1) := by decide +kernel
theorem dX8_readDigits_55 : decode cX8_readDigits 55 = .ok (.dup, 1) := by decide +kernel
theorem dX8_readDigits_56 : decode cX8_readDigits 56 = .ok (.getfield 51, 3) := by decide +kernel
theorem dX8_readDigits_59 : decode cX8_readDigits 59 = .ok (.iconst 1, 1) := by decide +kernel
theorem dX8_readDigits_60 : decode cX8_readDigits 60 = .ok (.iadd, 1) := by decide +kernel
theorem dX8_readDigits_61 : decode cX8_readDigits 61 = .ok (.putfield 51, 3) := by decide +kernel
theorem dX8_readDigits_64 : decode cX8_readDigits 64 = .ok (.aload_n 0, 1) := by decide +kernel
theorem dX8_readDigits_65 : decode cX8_readDigits 65 = .ok (.getfield 12, 3) := by decide +kernel
theorem dX8_readDigits_68 : decode cX8_readDigits 68 = .ok (.aload_n 0, 1) := by decide +kernel
theorem dX8_readDigits_69 : decode cX8_readDigits 69 = .ok (.getfield 51, 3) := by decide +kernel
theorem dX8_readDigits_72 : decode cX8_readDigits 72 = .ok (.invokevirtual 275, 3) := by decide +kernel
theorem dX8_readDigits_75 : decode cX8_readDigits 75 = .ok (.istore_n 1, 1) := by decide +kernel
theorem dX8_readDigits_76 : decode cX8_readDigits 76 = .ok (.goto (-59), 3) := by decide +kernel
theorem dX8_readDigits_79 : decode cX8_readDigits 79 = .ok (.aload_n 0, 1) := by decide +kernel
theorem dX8_readDigits_80 : decode cX8_readDigits 80 = .ok (.aload_n 0, 1) := by decide +kernel
theorem dX8_readDigits_81 : decode cX8_readDigits 81 = .ok (.getfield 51, 3) := by decide +kernel
theorem dX8_readDigits_84 : decode cX8_readDigits 84 = .ok (.aload_n 0, 1) := by decide +kernel
theorem dX8_readDigits_85 : decode cX8_readDigits 85 = .ok (.getfield 266, 3) := by decide +kernel
theorem dX8_readDigits_88 : decode cX8_readDigits 88 = .ok (.isub, 1) := by decide +kernel
theorem dX8_readDigits_89 : decode cX8_readDigits 89 = .ok (.iconst 4, 1) := by decide +kernel
theorem dX8_readDigits_90 : decode cX8_readDigits 90 = .ok (.if_icmp .gt 9, 3) := by decide +kernel
theorem dX8_readDigits_93 : decode cX8_readDigits 93 = .ok (.getstatic 257, 3) := by decide +kernel
theorem dX8_readDigits_96 : decode cX8_readDigits 96 = .ok (.goto 6, 3) := by decide +kernel
theorem dX8_readDigits_99 : decode cX8_readDigits 99 = .ok (.getstatic 297, 3) := by decide +kernel
theorem dX8_readDigits_102 : decode cX8_readDigits 102 = .ok (.putfield 31, 3) := by decide +kernel
theorem dX8_readDigits_105 : decode cX8_readDigits 105 = .ok (.return_, 1) := by decide +kernel
theorem dX8_readLetters_0 : decode cX8_readLetters 0 = .ok (.aload_n 0, 1) := by decide +kernel
theorem dX8_readLetters_1 : decode cX8_readLetters 1 = .ok (.getfield 51, 3) := by decide +kernel
theorem dX8_readLetters_4 : decode cX8_readLetters 4 = .ok (.aload_n 0, 1) := by decide +kernel
theorem dX8_readLetters_5 : decode cX8_readLetters 5 = .ok (.getfield 12, 3) := by decide +kernel
theorem dX8_readLetters_8 : decode cX8_readLetters 8 = .ok (.getfield 294, 3) := by decide +kernel
theorem dX8_readLetters_11 : decode cX8_readLetters 11 = .ok (.if_icmp .ge 33, 3) := by decide +kernel
theorem dX8_readLetters_14 : decode cX8_readLetters 14 = .ok (.aload_n 0, 1) := by decide +kernel
theorem dX8_readLetters_15 : decode cX8_readLetters 15 = .ok (.getfield 12, 3) := by decide +kernel
theorem dX8_readLetters_18 : decode cX8_readLetters 18 = .ok (.aload_n 0, 1) := by decide +kernel
theorem dX8_readLetters_19 : decode cX8_readLetters 19 = .ok (.getfield 51, 3) := by decide +kernel
theorem dX8_readLetters_22 : decode cX8_readLetters 22 = .ok (.invokevirtual 275, 3) := by decide +kernel
theorem dX8_readLetters_25 : decode cX8_readLetters 25 = .ok (.invokestatic 284, 3) := by decide +kernel
theorem dX8_readLetters_28 : decode cX8_readLetters 28 = .ok (.ifCond .eq 16, 3) := by decide +kernel
theorem dX8_readLetters_31 : decode cX8_readLetters 31 = .ok (.aload_n 0, 1) := by decide +kernel
theorem dX8_readLetters_32 : decode cX8_readLetters 32 = .ok (.dup, 1) := by decide +kernel
theorem dX8_readLetters_33 : decode cX8_readLetters 33 = .ok (.getfield 51, 3) := by decide +kernel
theorem dX8_readLetters_36 : decode cX8_readLetters 36 = .ok (.iconst 1, 1) := by decide +kernel
theorem dX8_readLetters_37 : decode cX8_readLetters 37 = .ok (.iadd, 1) := by decide +kernel
theorem dX8_readLetters_38 : decode cX8_readLetters 38 = .ok (.putfield 51, 3) := by decide +kernel
theorem dX8_readLetters_41 : decode cX8_readLetters 41 = .ok (.goto (-41), 3) := by decide +kernel
theorem dX8_readLetters_44 : decode cX8_readLetters 44 = .ok (.aload_n 0, 1) := by decide +kernel
theorem dX8_readLetters_45 : decode cX8_readLetters 45 = .ok (.getstatic 300, 3) := by decide +kernel
theorem dX8_readLetters_48 : decode cX8_readLetters 48 = .ok (.putfield 31, 3) := by decide +kernel
theorem dX8_readLetters_51 : decode cX8_readLetters 51 = .ok (.return_, 1) := by decide +kernel
theorem dX8_isWord_0 : decode cX8_isWord 0 = .ok (.aload_n 0, 1) := by decide +kernel
theorem dX8_isWord_1 : decode cX8_isWord 1 = .ok (.getfield 31, 3) := by decide +kernel
theorem dX8_isWord_4 : decode cX8_isWord 4 = .ok (.getstatic 300, 3) := by decide +kernel
theorem dX8_isWord_7 : decode cX8_isWord 7 = .ok (.if_acmp .ne 19, 3) := by decide +kernel
theorem dX8_isWord_10 : decode cX8_isWord 10 = .ok (.aload_n 0, 1) := by decide +kernel
theorem dX8_isWord_11 : decode cX8_isWord 11 = .ok (.getfield 51, 3) := by decide +kernel
theorem dX8_isWord_14 : decode cX8_isWord 14 = .ok (.aload_n 0, 1) := by decide +kernel
theorem dX8_isWord_15 : decode cX8_isWord 15 = .ok (.getfield 266, 3) := by decide +kernel
theorem dX8_isWord_18 : decode cX8_isWord 18 = .ok (.isub, 1) := by decide +kernel
theorem dX8_isWord_19 : decode cX8_isWord 19 = .ok (.aload_n 1, 1) := by decide +kernel
theorem dX8_isWord_20 : decode cX8_isWord 20 = .ok (.invokevirtual 303, 3) := by decide +kernel
theorem dX8_isWord_23 : decode cX8_isWord 23 = .ok (.if_icmp .eq 5, 3) := by decide +kernel
theorem dX8_isWord_26 : decode cX8_isWord 26 = .ok (.iconst 0, 1) := by decide +kernel
theorem dX8_isWord_27 : decode cX8_isWord 27 = .ok (.ireturn, 1) := by decide +kernel
theorem dX8_isWord_28 : decode cX8_isWord 28 = .ok (.iconst 0, 1) := by decide +kernel
theorem dX8_isWord_29 : decode cX8_isWord 29 = .ok (.istore_n 2, 1) := by decide +kernel
theorem dX8_isWord_30 : decode cX8_isWord 30 = .ok (.iload_n 2, 1) := by decide +kernel
theorem dX8_isWord_31 : decode cX8_isWord 31 = .ok (.aload_n 1, 1) := by decide +kernel
theorem dX8_isWord_32 : decode cX8_isWord 32 = .ok (.invokevirtual 303, 3) := by decide +kernel
theorem dX8_isWord_35 : decode cX8_isWord 35 = .ok (.if_icmp .ge 32, 3) := by decide +kernel
theorem dX8_isWord_38 : decode cX8_isWord 38 = .ok (.aload_n 0, 1) := by decide +kernel
theorem dX8_isWord_39 : decode cX8_isWord 39 = .ok (.getfield 12, 3) := by decide +kernel
theorem dX8_isWord_42 : decode cX8_isWord 42 = .ok (.aload_n 0, 1) := by decide +kernel
theorem dX8_isWord_43 : decode cX8_isWord 43 = .ok (.getfield 266, 3) := by decide +kernel
theorem dX8_isWord_46 : decode cX8_isWord 46 = .ok (.iload_n 2, 1) := by decide +kernel
theorem dX8_isWord_47 : decode cX8_isWord 47 = .ok (.iadd, 1) := by decide +kernel
theorem dX8_isWord_48 : decode cX8_isWord 48 = .ok (.invokevirtual 275, 3) := by decide +kernel
theorem dX8_isWord_51 : decode cX8_isWord 51 = .ok (.aload_n 1, 1) := by decide +kernel
theorem dX8_isWord_52 : decode cX8_isWord 52 = .ok (.iload_n 2, 1) := by decide +kernel
theorem dX8_isWord_53 : decode cX8_isWord 53 = .ok (.invokevirtual 307, 3) := by decide +kernel
theorem dX8_isWord_56 : decode cX8_isWord 56 = .ok (.if_icmp .eq 5, 3) := by decide +kernel
theorem dX8_isWord_59 : decode cX8_isWord 59 = .ok (.iconst 0, 1) := by decide +kernel
theorem dX8_isWord_60 : decode cX8_isWord 60 = .ok (.ireturn, 1) := by decide +kernel
theorem dX8_isWord_61 : decode cX8_isWord 61 = .ok (.iinc 2 1, 3) := by decide +kernel
theorem dX8_isWord_64 : decode cX8_isWord 64 = .ok (.goto (-34), 3) := by decide +kernel
theorem dX8_isWord_67 : decode cX8_isWord 67 = .ok (.iconst 1, 1) := by decide +kernel
theorem dX8_isWord_68 : decode cX8_isWord 68 = .ok (.ireturn, 1) := by decide +kernel
theorem dX8_markOf_0 : decode cX8_markOf 0 = .ok (.iload_n 0, 1) := by decide +kernel
theorem dX8_markOf_1 : decode cX8_markOf 1 = .ok (.lookupswitch 47 #[(40, 35), (41, 39), (59, 43)], 35) := by decide +kernel
theorem dX8_markOf_36 : decode cX8_markOf 36 = .ok (.getstatic 131, 3) := by decide +kernel
theorem dX8_markOf_39 : decode cX8_markOf 39 = .ok (.areturn, 1) := by decide +kernel
theorem dX8_markOf_40 : decode cX8_markOf 40 = .ok (.getstatic 75, 3) := by decide +kernel
theorem dX8_markOf_43 : decode cX8_markOf 43 = .ok (.areturn, 1) := by decide +kernel
theorem dX8_markOf_44 : decode cX8_markOf 44 = .ok (.getstatic 64, 3) := by decide +kernel
theorem dX8_markOf_47 : decode cX8_markOf 47 = .ok (.areturn, 1) := by decide +kernel
theorem dX8_markOf_48 : decode cX8_markOf 48 = .ok (.getstatic 297, 3) := by decide +kernel
theorem dX8_markOf_51 : decode cX8_markOf 51 = .ok (.areturn, 1) := by decide +kernel
theorem dX8_isDigit_0 : decode cX8_isDigit 0 = .ok (.iload_n 0, 1) := by decide +kernel
theorem dX8_isDigit_1 : decode cX8_isDigit 1 = .ok (.bipush 48, 2) := by decide +kernel
theorem dX8_isDigit_3 : decode cX8_isDigit 3 = .ok (.if_icmp .lt 13, 3) := by decide +kernel
theorem dX8_isDigit_6 : decode cX8_isDigit 6 = .ok (.iload_n 0, 1) := by decide +kernel
theorem dX8_isDigit_7 : decode cX8_isDigit 7 = .ok (.bipush 57, 2) := by decide +kernel
theorem dX8_isDigit_9 : decode cX8_isDigit 9 = .ok (.if_icmp .gt 7, 3) := by decide +kernel
theorem dX8_isDigit_12 : decode cX8_isDigit 12 = .ok (.iconst 1, 1) := by decide +kernel
theorem dX8_isDigit_13 : decode cX8_isDigit 13 = .ok (.goto 4, 3) := by decide +kernel
theorem dX8_isDigit_16 : decode cX8_isDigit 16 = .ok (.iconst 0, 1) := by decide +kernel
theorem dX8_isDigit_17 : decode cX8_isDigit 17 = .ok (.ireturn, 1) := by decide +kernel
theorem dX8_isLetter_0 : decode cX8_isLetter 0 = .ok (.iload_n 0, 1) := by decide +kernel
theorem dX8_isLetter_1 : decode cX8_isLetter 1 = .ok (.bipush 97, 2) := by decide +kernel
theorem dX8_isLetter_3 : decode cX8_isLetter 3 = .ok (.if_icmp .lt 13, 3) := by decide +kernel
theorem dX8_isLetter_6 : decode cX8_isLetter 6 = .ok (.iload_n 0, 1) := by decide +kernel
theorem dX8_isLetter_7 : decode cX8_isLetter 7 = .ok (.bipush 122, 2) := by decide +kernel
theorem dX8_isLetter_9 : decode cX8_isLetter 9 = .ok (.if_icmp .gt 7, 3) := by decide +kernel
theorem dX8_isLetter_12 : decode cX8_isLetter 12 = .ok (.iconst 1, 1) := by decide +kernel
theorem dX8_isLetter_13 : decode cX8_isLetter 13 = .ok (.goto 4, 3) := by decide +kernel
theorem dX8_isLetter_16 : decode cX8_isLetter 16 = .ok (.iconst 0, 1) := by decide +kernel
theorem dX8_isLetter_17 : decode cX8_isLetter 17 = .ok (.ireturn, 1) := by decide +kernel
theorem dX10_init_0 : decode cX10_init 0 = .ok (.aload_n 0, 1) := by decide +kernel
theorem dX10_init_1 : decode cX10_init 1 = .ok (.invokespecial 3, 3) := by decide +kernel
theorem dX10_init_4 : decode cX10_init 4 = .ok (.return_, 1) := by decide +kernel
theorem dX10_build_0 : decode cX10_build 0 = .ok (.aload_n 0, 1) := by decide +kernel
theorem dX10_build_1 : decode cX10_build 1 = .ok (.iload_n 1, 1) := by decide +kernel
theorem dX10_build_2 : decode cX10_build 2 = .ok (.putfield 9, 3) := by decide +kernel
theorem dX10_build_5 : decode cX10_build 5 = .ok (.aload_n 0, 1) := by decide +kernel
theorem dX10_build_6 : decode cX10_build 6 = .ok (.iconst 0, 1) := by decide +kernel
theorem dX10_build_7 : decode cX10_build 7 = .ok (.putfield 15, 3) := by decide +kernel
theorem dX10_build_10 : decode cX10_build 10 = .ok (.aload_n 0, 1) := by decide +kernel
theorem dX10_build_11 : decode cX10_build 11 = .ok (.iconst 1, 1) := by decide +kernel
theorem dX10_build_12 : decode cX10_build 12 = .ok (.putfield 18, 3) := by decide +kernel
theorem dX10_build_15 : decode cX10_build 15 = .ok (.aload_n 0, 1) := by decide +kernel
theorem dX10_build_16 : decode cX10_build 16 = .ok (.invokevirtual 22, 3) := by decide +kernel
theorem dX10_build_19 : decode cX10_build 19 = .ok (.return_, 1) := by decide +kernel
theorem dX10_become_0 : decode cX10_become 0 = .ok (.aload_n 0, 1) := by decide +kernel
theorem dX10_become_1 : decode cX10_become 1 = .ok (.aload_n 1, 1) := by decide +kernel
theorem dX10_become_2 : decode cX10_become 2 = .ok (.getfield 9, 3) := by decide +kernel
theorem dX10_become_5 : decode cX10_become 5 = .ok (.putfield 9, 3) := by decide +kernel
theorem dX10_become_8 : decode cX10_become 8 = .ok (.aload_n 0, 1) := by decide +kernel
theorem dX10_become_9 : decode cX10_become 9 = .ok (.aload_n 1, 1) := by decide +kernel
theorem dX10_become_10 : decode cX10_become 10 = .ok (.getfield 15, 3) := by decide +kernel
theorem dX10_become_13 : decode cX10_become 13 = .ok (.putfield 15, 3) := by decide +kernel
theorem dX10_become_16 : decode cX10_become 16 = .ok (.aload_n 0, 1) := by decide +kernel
theorem dX10_become_17 : decode cX10_become 17 = .ok (.aload_n 1, 1) := by decide +kernel
theorem dX10_become_18 : decode cX10_become 18 = .ok (.getfield 18, 3) := by decide +kernel
theorem dX10_become_21 : decode cX10_become 21 = .ok (.putfield 18, 3) := by decide +kernel
theorem dX10_become_24 : decode cX10_become 24 = .ok (.aload_n 0, 1) := by decide +kernel
theorem dX10_become_25 : decode cX10_become 25 = .ok (.aload_n 1, 1) := by decide +kernel
theorem dX10_become_26 : decode cX10_become 26 = .ok (.getfield 25, 3) := by decide +kernel
theorem dX10_become_29 : decode cX10_become 29 = .ok (.putfield 25, 3) := by decide +kernel
theorem dX10_become_32 : decode cX10_become 32 = .ok (.aload_n 0, 1) := by decide +kernel
theorem dX10_become_33 : decode cX10_become 33 = .ok (.aload_n 1, 1) := by decide +kernel
theorem dX10_become_34 : decode cX10_become 34 = .ok (.getfield 28, 3) := by decide +kernel
theorem dX10_become_37 : decode cX10_become 37 = .ok (.putfield 28, 3) := by decide +kernel
theorem dX10_become_40 : decode cX10_become 40 = .ok (.aload_n 0, 1) := by decide +kernel
theorem dX10_become_41 : decode cX10_become 41 = .ok (.aload_n 1, 1) := by decide +kernel
theorem dX10_become_42 : decode cX10_become 42 = .ok (.getfield 31, 3) := by decide +kernel
theorem dX10_become_45 : decode cX10_become 45 = .ok (.putfield 31, 3) := by decide +kernel
theorem dX10_become_48 : decode cX10_become 48 = .ok (.aload_n 0, 1) := by decide +kernel
theorem dX10_become_49 : decode cX10_become 49 = .ok (.aload_n 1, 1) := by decide +kernel
theorem dX10_become_50 : decode cX10_become 50 = .ok (.getfield 34, 3) := by decide +kernel
theorem dX10_become_53 : decode cX10_become 53 = .ok (.putfield 34, 3) := by decide +kernel
theorem dX10_become_56 : decode cX10_become 56 = .ok (.aload_n 0, 1) := by decide +kernel
theorem dX10_become_57 : decode cX10_become 57 = .ok (.aload_n 1, 1) := by decide +kernel
theorem dX10_become_58 : decode cX10_become 58 = .ok (.getfield 37, 3) := by decide +kernel
theorem dX10_become_61 : decode cX10_become 61 = .ok (.putfield 37, 3) := by decide +kernel
theorem dX10_become_64 : decode cX10_become 64 = .ok (.aload_n 0, 1) := by decide +kernel
theorem dX10_become_65 : decode cX10_become 65 = .ok (.aload_n 1, 1) := by decide +kernel
theorem dX10_become_66 : decode cX10_become 66 = .ok (.getfield 40, 3) := by decide +kernel
theorem dX10_become_69 : decode cX10_become 69 = .ok (.putfield 40, 3) := by decide +kernel
theorem dX10_become_72 : decode cX10_become 72 = .ok (.aload_n 0, 1) := by decide +kernel
theorem dX10_become_73 : decode cX10_become 73 = .ok (.aload_n 1, 1) := by decide +kernel
theorem dX10_become_74 : decode cX10_become 74 = .ok (.getfield 43, 3) := by decide +kernel
theorem dX10_become_77 : decode cX10_become 77 = .ok (.putfield 43, 3) := by decide +kernel
theorem dX10_become_80 : decode cX10_become 80 = .ok (.return_, 1) := by decide +kernel
theorem dX10_hasLeaf_0 : decode cX10_hasLeaf 0 = .ok (.aload_n 0, 1) := by decide +kernel
theorem dX10_hasLeaf_1 : decode cX10_hasLeaf 1 = .ok (.getfield 25, 3) := by decide +kernel
theorem dX10_hasLeaf_4 : decode cX10_hasLeaf 4 = .ok (.ifCond .le 7, 3) := by decide +kernel
theorem dX10_hasLeaf_7 : decode cX10_hasLeaf 7 = .ok (.iconst 1, 1) := by decide +kernel
theorem dX10_hasLeaf_8 : decode cX10_hasLeaf 8 = .ok (.goto 4, 3) := by decide +kernel
theorem dX10_hasLeaf_11 : decode cX10_hasLeaf 11 = .ok (.iconst 0, 1) := by decide +kernel
theorem dX10_hasLeaf_12 : decode cX10_hasLeaf 12 = .ok (.ireturn, 1) := by decide +kernel
theorem dX10_takeLeaf_0 : decode cX10_takeLeaf 0 = .ok (.aload_n 0, 1) := by decide +kernel
theorem dX10_takeLeaf_1 : decode cX10_takeLeaf 1 = .ok (.iload_n 1, 1) := by decide +kernel
theorem dX10_takeLeaf_2 : decode cX10_takeLeaf 2 = .ok (.putfield 25, 3) := by decide +kernel
theorem dX10_takeLeaf_5 : decode cX10_takeLeaf 5 = .ok (.aload_n 0, 1) := by decide +kernel
theorem dX10_takeLeaf_6 : decode cX10_takeLeaf 6 = .ok (.aload_n 0, 1) := by decide +kernel
theorem dX10_takeLeaf_7 : decode cX10_takeLeaf 7 = .ok (.getfield 9, 3) := by decide +kernel
theorem dX10_takeLeaf_10 : decode cX10_takeLeaf 10 = .ok (.ifCond .gt 7, 3) := by decide +kernel
theorem dX10_takeLeaf_13 : decode cX10_takeLeaf 13 = .ok (.iconst 0, 1) := by decide +kernel
theorem dX10_takeLeaf_14 : decode cX10_takeLeaf 14 = .ok (.goto 12, 3) := by decide +kernel
theorem dX10_takeLeaf_17 : decode cX10_takeLeaf 17 = .ok (.iload_n 1, 1) := by decide +kernel
theorem dX10_takeLeaf_18 : decode cX10_takeLeaf 18 = .ok (.bipush 100, 2) := by decide +kernel
theorem dX10_takeLeaf_20 : decode cX10_takeLeaf 20 = .ok (.imul, 1) := by decide +kernel
theorem dX10_takeLeaf_21 : decode cX10_takeLeaf 21 = .ok (.aload_n 0, 1) := by decide +kernel
theorem dX10_takeLeaf_22 : decode cX10_takeLeaf 22 = .ok (.getfield 9, 3) := by decide +kernel
theorem dX10_takeLeaf_25 : decode cX10_takeLeaf 25 = .ok (.idiv, 1) := by decide +kernel
theorem dX10_takeLeaf_26 : decode cX10_takeLeaf 26 = .ok (.putfield 28, 3) := by decide +kernel
theorem dX10_takeLeaf_29 : decode cX10_takeLeaf 29 = .ok (.aload_n 0, 1) := by decide +kernel
theorem dX10_takeLeaf_30 : decode cX10_takeLeaf 30 = .ok (.iload_n 1, 1) := by decide +kernel
theorem dX10_takeLeaf_31 : decode cX10_takeLeaf 31 = .ok (.sipush 2000, 3) := by decide +kernel
theorem dX10_takeLeaf_34 : decode cX10_takeLeaf 34 = .ok (.imul, 1) := by decide +kernel
theorem dX10_takeLeaf_35 : decode cX10_takeLeaf 35 = .ok (.putfield 31, 3) := by decide +kernel
theorem dX10_takeLeaf_38 : decode cX10_takeLeaf 38 = .ok (.aload_n 0, 1) := by decide +kernel
theorem dX10_takeLeaf_39 : decode cX10_takeLeaf 39 = .ok (.iload_n 2, 1) := by decide +kernel
theorem dX10_takeLeaf_40 : decode cX10_takeLeaf 40 = .ok (.putfield 34, 3) := by decide +kernel
theorem dX10_takeLeaf_43 : decode cX10_takeLeaf 43 = .ok (.aload_n 0, 1) := by decide +kernel
theorem dX10_takeLeaf_44 : decode cX10_takeLeaf 44 = .ok (.iload_n 2, 1) := by decide +kernel
theorem dX10_takeLeaf_45 : decode cX10_takeLeaf 45 = .ok (.putfield 37, 3) := by decide +kernel
theorem dX10_takeLeaf_48 : decode cX10_takeLeaf 48 = .ok (.aload_n 0, 1) := by decide +kernel
theorem dX10_takeLeaf_49 : decode cX10_takeLeaf 49 = .ok (.iconst 0, 1) := by decide +kernel
theorem dX10_takeLeaf_50 : decode cX10_takeLeaf 50 = .ok (.putfield 40, 3) := by decide +kernel
theorem dX10_takeLeaf_53 : decode cX10_takeLeaf 53 = .ok (.aload_n 0, 1) := by decide +kernel
theorem dX10_takeLeaf_54 : decode cX10_takeLeaf 54 = .ok (.iconst 0, 1) := by decide +kernel
theorem dX10_takeLeaf_55 : decode cX10_takeLeaf 55 = .ok (.putfield 43, 3) := by decide +kernel
theorem dX10_takeLeaf_58 : decode cX10_takeLeaf 58 = .ok (.return_, 1) := by decide +kernel
theorem dX10_removeLeaf_0 : decode cX10_removeLeaf 0 = .ok (.aload_n 0, 1) := by decide +kernel
theorem dX10_removeLeaf_1 : decode cX10_removeLeaf 1 = .ok (.iconst 0, 1) := by decide +kernel
theorem dX10_removeLeaf_2 : decode cX10_removeLeaf 2 = .ok (.putfield 25, 3) := by decide +kernel
theorem dX10_removeLeaf_5 : decode cX10_removeLeaf 5 = .ok (.aload_n 0, 1) := by decide +kernel
theorem dX10_removeLeaf_6 : decode cX10_removeLeaf 6 = .ok (.iconst 0, 1) := by decide +kernel
theorem dX10_removeLeaf_7 : decode cX10_removeLeaf 7 = .ok (.putfield 28, 3) := by decide +kernel
theorem dX10_removeLeaf_10 : decode cX10_removeLeaf 10 = .ok (.aload_n 0, 1) := by decide +kernel
theorem dX10_removeLeaf_11 : decode cX10_removeLeaf 11 = .ok (.iconst 0, 1) := by decide +kernel
theorem dX10_removeLeaf_12 : decode cX10_removeLeaf 12 = .ok (.putfield 31, 3) := by decide +kernel
theorem dX10_removeLeaf_15 : decode cX10_removeLeaf 15 = .ok (.aload_n 0, 1) := by decide +kernel
theorem dX10_removeLeaf_16 : decode cX10_removeLeaf 16 = .ok (.iconst 0, 1) := by decide +kernel
theorem dX10_removeLeaf_17 : decode cX10_removeLeaf 17 = .ok (.putfield 34, 3) := by decide +kernel
theorem dX10_removeLeaf_20 : decode cX10_removeLeaf 20 = .ok (.aload_n 0, 1) := by decide +kernel
theorem dX10_removeLeaf_21 : decode cX10_removeLeaf 21 = .ok (.iconst 0, 1) := by decide +kernel
theorem dX10_removeLeaf_22 : decode cX10_removeLeaf 22 = .ok (.putfield 37, 3) := by decide +kernel
theorem dX10_removeLeaf_25 : decode cX10_removeLeaf 25 = .ok (.aload_n 0, 1) := by decide +kernel
theorem dX10_removeLeaf_26 : decode cX10_removeLeaf 26 = .ok (.iconst 0, 1) := by decide +kernel
theorem dX10_removeLeaf_27 : decode cX10_removeLeaf 27 = .ok (.putfield 40, 3) := by decide +kernel
theorem dX10_removeLeaf_30 : decode cX10_removeLeaf 30 = .ok (.aload_n 0, 1) := by decide +kernel
theorem dX10_removeLeaf_31 : decode cX10_removeLeaf 31 = .ok (.iconst 0, 1) := by decide +kernel
theorem dX10_removeLeaf_32 : decode cX10_removeLeaf 32 = .ok (.putfield 43, 3) := by decide +kernel
theorem dX10_removeLeaf_35 : decode cX10_removeLeaf 35 = .ok (.return_, 1) := by decide +kernel
theorem dX10_mixLayers_0 : decode cX10_mixLayers 0 = .ok (.aload_n 0, 1) := by decide +kernel
theorem dX10_mixLayers_1 : decode cX10_mixLayers 1 = .ok (.getfield 34, 3) := by decide +kernel
theorem dX10_mixLayers_4 : decode cX10_mixLayers 4 = .ok (.aload_n 0, 1) := by decide +kernel
theorem dX10_mixLayers_5 : decode cX10_mixLayers 5 = .ok (.getfield 37, 3) := by decide +kernel
theorem dX10_mixLayers_8 : decode cX10_mixLayers 8 = .ok (.iadd, 1) := by decide +kernel
theorem dX10_mixLayers_9 : decode cX10_mixLayers 9 = .ok (.istore_n 1, 1) := by decide +kernel
theorem dX10_mixLayers_10 : decode cX10_mixLayers 10 = .ok (.aload_n 0, 1) := by decide +kernel
theorem dX10_mixLayers_11 : decode cX10_mixLayers 11 = .ok (.iload_n 1, 1) := by decide +kernel
theorem dX10_mixLayers_12 : decode cX10_mixLayers 12 = .ok (.iconst 2, 1) := by decide +kernel
theorem dX10_mixLayers_13 : decode cX10_mixLayers 13 = .ok (.idiv, 1) := by decide +kernel
theorem dX10_mixLayers_14 : decode cX10_mixLayers 14 = .ok (.putfield 34, 3) := by decide +kernel
theorem dX10_mixLayers_17 : decode cX10_mixLayers 17 = .ok (.aload_n 0, 1) := by decide +kernel
theorem dX10_mixLayers_18 : decode cX10_mixLayers 18 = .ok (.iload_n 1, 1) := by decide +kernel
theorem dX10_mixLayers_19 : decode cX10_mixLayers 19 = .ok (.aload_n 0, 1) := by decide +kernel
theorem dX10_mixLayers_20 : decode cX10_mixLayers 20 = .ok (.getfield 34, 3) := by decide +kernel
theorem dX10_mixLayers_23 : decode cX10_mixLayers 23 = .ok (.isub, 1) := by decide +kernel
theorem dX10_mixLayers_24 : decode cX10_mixLayers 24 = .ok (.putfield 37, 3) := by decide +kernel
theorem dX10_mixLayers_27 : decode cX10_mixLayers 27 = .ok (.aload_n 0, 1) := by decide +kernel
theorem dX10_mixLayers_28 : decode cX10_mixLayers 28 = .ok (.dup, 1) := by decide +kernel
theorem dX10_mixLayers_29 : decode cX10_mixLayers 29 = .ok (.getfield 43, 3) := by decide +kernel
theorem dX10_mixLayers_32 : decode cX10_mixLayers 32 = .ok (.iconst 2, 1) := by decide +kernel
theorem dX10_mixLayers_33 : decode cX10_mixLayers 33 = .ok (.iadd, 1) := by decide +kernel
theorem dX10_mixLayers_34 : decode cX10_mixLayers 34 = .ok (.putfield 43, 3) := by decide +kernel
theorem dX10_mixLayers_37 : decode cX10_mixLayers 37 = .ok (.return_, 1) := by decide +kernel
theorem dX10_moistureOf_0 : decode cX10_moistureOf 0 = .ok (.iload_n 1, 1) := by decide +kernel
theorem dX10_moistureOf_1 : decode cX10_moistureOf 1 = .ok (.ifCond .ne 10, 3) := by decide +kernel
theorem dX10_moistureOf_4 : decode cX10_moistureOf 4 = .ok (.aload_n 0, 1) := by decide +kernel
theorem dX10_moistureOf_5 : decode cX10_moistureOf 5 = .ok (.getfield 34, 3) := by decide +kernel
theorem dX10_moistureOf_8 : decode cX10_moistureOf 8 = .ok (.goto 7, 3) := by decide +kernel
theorem dX10_moistureOf_11 : decode cX10_moistureOf 11 = .ok (.aload_n 0, 1) := by decide +kernel
theorem dX10_moistureOf_12 : decode cX10_moistureOf 12 = .ok (.getfield 37, 3) := by decide +kernel
theorem dX10_moistureOf_15 : decode cX10_moistureOf 15 = .ok (.ireturn, 1) := by decide +kernel
theorem dX10_gap_0 : decode cX10_gap 0 = .ok (.aload_n 0, 1) := by decide +kernel
theorem dX10_gap_1 : decode cX10_gap 1 = .ok (.getfield 34, 3) := by decide +kernel
theorem dX10_gap_4 : decode cX10_gap 4 = .ok (.aload_n 0, 1) := by decide +kernel
theorem dX10_gap_5 : decode cX10_gap 5 = .ok (.getfield 37, 3) := by decide +kernel
theorem dX10_gap_8 : decode cX10_gap 8 = .ok (.isub, 1) := by decide +kernel
theorem dX10_gap_9 : decode cX10_gap 9 = .ok (.invokestatic 46, 3) := by decide +kernel
theorem dX10_gap_12 : decode cX10_gap 12 = .ok (.ireturn, 1) := by decide +kernel
theorem dX10_quality_0 : decode cX10_quality 0 = .ok (.bipush 100, 2) := by decide +kernel
theorem dX10_quality_2 : decode cX10_quality 2 = .ok (.aload_n 0, 1) := by decide +kernel
theorem dX10_quality_3 : decode cX10_quality 3 = .ok (.invokevirtual 52, 3) := by decide +kernel
theorem dX10_quality_6 : decode cX10_quality 6 = .ok (.isub, 1) := by decide +kernel
theorem dX10_quality_7 : decode cX10_quality 7 = .ok (.iconst 2, 1) := by decide +kernel
theorem dX10_quality_8 : decode cX10_quality 8 = .ok (.aload_n 0, 1) := by decide +kernel
theorem dX10_quality_9 : decode cX10_quality 9 = .ok (.getfield 43, 3) := by decide +kernel
theorem dX10_quality_12 : decode cX10_quality 12 = .ok (.imul, 1) := by decide +kernel
theorem dX10_quality_13 : decode cX10_quality 13 = .ok (.isub, 1) := by decide +kernel
theorem dX10_quality_14 : decode cX10_quality 14 = .ok (.istore_n 1, 1) := by decide +kernel
theorem dX10_quality_15 : decode cX10_quality 15 = .ok (.iload_n 1, 1) := by decide +kernel
theorem dX10_quality_16 : decode cX10_quality 16 = .ok (.ifCond .ge 7, 3) := by decide +kernel
theorem dX10_quality_19 : decode cX10_quality 19 = .ok (.iconst 0, 1) := by decide +kernel
theorem dX10_quality_20 : decode cX10_quality 20 = .ok (.goto 4, 3) := by decide +kernel
theorem dX10_quality_23 : decode cX10_quality 23 = .ok (.iload_n 1, 1) := by decide +kernel
theorem dX10_quality_24 : decode cX10_quality 24 = .ok (.ireturn, 1) := by decide +kernel
theorem dX10_lossAt_0 : decode cX10_lossAt 0 = .ok (.bipush 100, 2) := by decide +kernel
theorem dX10_lossAt_2 : decode cX10_lossAt 2 = .ok (.aload_n 0, 1) := by decide +kernel
theorem dX10_lossAt_3 : decode cX10_lossAt 3 = .ok (.getfield 28, 3) := by decide +kernel
theorem dX10_lossAt_6 : decode cX10_lossAt 6 = .ok (.iadd, 1) := by decide +kernel
theorem dX10_lossAt_7 : decode cX10_lossAt 7 = .ok (.istore_n 2, 1) := by decide +kernel
theorem dX10_lossAt_8 : decode cX10_lossAt 8 = .ok (.aload_n 0, 1) := by decide +kernel
theorem dX10_lossAt_9 : decode cX10_lossAt 9 = .ok (.invokevirtual 56, 3) := by decide +kernel
theorem dX10_lossAt_12 : decode cX10_lossAt 12 = .ok (.ifCond .eq 7, 3) := by decide +kernel
theorem dX10_lossAt_15 : decode cX10_lossAt 15 = .ok (.iload_n 2, 1) := by decide +kernel
theorem dX10_lossAt_16 : decode cX10_lossAt 16 = .ok (.ifCond .gt 7, 3) := by decide +kernel
theorem dX10_lossAt_19 : decode cX10_lossAt 19 = .ok (.iconst 0, 1) := by decide +kernel
theorem dX10_lossAt_20 : decode cX10_lossAt 20 = .ok (.goto 14, 3) := by decide +kernel
theorem dX10_lossAt_23 : decode cX10_lossAt 23 = .ok (.aload_n 0, 1) := by decide +kernel
theorem dX10_lossAt_24 : decode cX10_lossAt 24 = .ok (.getfield 15, 3) := by decide +kernel
theorem dX10_lossAt_27 : decode cX10_lossAt 27 = .ok (.iload_n 1, 1) := by decide +kernel
theorem dX10_lossAt_28 : decode cX10_lossAt 28 = .ok (.imul, 1) := by decide +kernel
theorem dX10_lossAt_29 : decode cX10_lossAt 29 = .ok (.bipush 60, 2) := by decide +kernel
theorem dX10_lossAt_31 : decode cX10_lossAt 31 = .ok (.imul, 1) := by decide +kernel
theorem dX10_lossAt_32 : decode cX10_lossAt 32 = .ok (.iload_n 2, 1) := by decide +kernel
theorem dX10_lossAt_33 : decode cX10_lossAt 33 = .ok (.idiv, 1) := by decide +kernel
theorem dX10_lossAt_34 : decode cX10_lossAt 34 = .ok (.ireturn, 1) := by decide +kernel
theorem dX10_passHour_0 : decode cX10_passHour 0 = .ok (.aload_n 0, 1) := by decide +kernel
theorem dX10_passHour_1 : decode cX10_passHour 1 = .ok (.invokevirtual 56, 3) := by decide +kernel
theorem dX10_passHour_4 : decode cX10_passHour 4 = .ok (.ifCond .ne 5, 3) := by decide +kernel
theorem dX10_passHour_7 : decode cX10_passHour 7 = .ok (.iconst 0, 1) := by decide +kernel
theorem dX10_passHour_8 : decode cX10_passHour 8 = .ok (.ireturn, 1) := by decide +kernel
theorem dX10_passHour_9 : decode cX10_passHour 9 = .ok (.aload_n 0, 1) := by decide +kernel
theorem dX10_passHour_10 : decode cX10_passHour 10 = .ok (.aload_n 0, 1) := by decide +kernel
theorem dX10_passHour_11 : decode cX10_passHour 11 = .ok (.iload_n 1, 1) := by decide +kernel
theorem dX10_passHour_12 : decode cX10_passHour 12 = .ok (.invokevirtual 60, 3) := by decide +kernel
theorem dX10_passHour_15 : decode cX10_passHour 15 = .ok (.invokevirtual 63, 3) := by decide +kernel
theorem dX10_passHour_18 : decode cX10_passHour 18 = .ok (.istore_n 2, 1) := by decide +kernel
theorem dX10_passHour_19 : decode cX10_passHour 19 = .ok (.aload_n 0, 1) := by decide +kernel
theorem dX10_passHour_20 : decode cX10_passHour 20 = .ok (.getfield 15, 3) := by decide +kernel
theorem dX10_passHour_23 : decode cX10_passHour 23 = .ok (.ifCond .le 34, 3) := by decide +kernel
theorem dX10_passHour_26 : decode cX10_passHour 26 = .ok (.aload_n 0, 1) := by decide +kernel
theorem dX10_passHour_27 : decode cX10_passHour 27 = .ok (.aload_n 0, 1) := by decide +kernel
theorem dX10_passHour_28 : decode cX10_passHour 28 = .ok (.getfield 40, 3) := by decide +kernel
theorem dX10_passHour_31 : decode cX10_passHour 31 = .ok (.aload_n 0, 1) := by decide +kernel
theorem dX10_passHour_32 : decode cX10_passHour 32 = .ok (.getfield 15, 3) := by decide +kernel
theorem dX10_passHour_35 : decode cX10_passHour 35 = .ok (.if_icmp .ge 7, 3) := by decide +kernel
theorem dX10_passHour_38 : decode cX10_passHour 38 = .ok (.iconst 0, 1) := by decide +kernel
theorem dX10_passHour_39 : decode cX10_passHour 39 = .ok (.goto 12, 3) := by decide +kernel
theorem dX10_passHour_42 : decode cX10_passHour 42 = .ok (.aload_n 0, 1) := by decide +kernel
theorem dX10_passHour_43 : decode cX10_passHour 43 = .ok (.getfield 40, 3) := by decide +kernel
theorem dX10_passHour_46 : decode cX10_passHour 46 = .ok (.aload_n 0, 1) := by decide +kernel
theorem dX10_passHour_47 : decode cX10_passHour 47 = .ok (.getfield 15, 3) := by decide +kernel
theorem dX10_passHour_50 : decode cX10_passHour 50 = .ok (.isub, 1) := by decide +kernel
theorem dX10_passHour_51 : decode cX10_passHour 51 = .ok (.putfield 40, 3) := by decide +kernel
theorem dX10_passHour_54 : decode cX10_passHour 54 = .ok (.goto 22, 3) := by decide +kernel
theorem dX10_passHour_57 : decode cX10_passHour 57 = .ok (.aload_n 0, 1) := by decide +kernel
theorem dX10_passHour_58 : decode cX10_passHour 58 = .ok (.getfield 40, 3) := by decide +kernel
theorem dX10_passHour_61 : decode cX10_passHour 61 = .ok (.bipush 20, 2) := by decide +kernel
theorem dX10_passHour_63 : decode cX10_passHour 63 = .ok (.if_icmp .ge 13, 3) := by decide +kernel
theorem dX10_passHour_66 : decode cX10_passHour 66 = .ok (.aload_n 0, 1) := by decide +kernel
theorem dX10_passHour_67 : decode cX10_passHour 67 = .ok (.dup, 1) := by decide +kernel
theorem dX10_passHour_68 : decode cX10_passHour 68 = .ok (.getfield 40, 3) := by decide +kernel
theorem dX10_passHour_71 : decode cX10_passHour 71 = .ok (.iconst 1, 1) := by decide +kernel
theorem dX10_passHour_72 : decode cX10_passHour 72 = .ok (.iadd, 1) := by decide +kernel
theorem dX10_passHour_73 : decode cX10_passHour 73 = .ok (.putfield 40, 3) := by decide +kernel
theorem dX10_passHour_76 : decode cX10_passHour 76 = .ok (.aload_n 0, 1) := by decide +kernel
theorem dX10_passHour_77 : decode cX10_passHour 77 = .ok (.getfield 40, 3) := by decide +kernel
theorem dX10_passHour_80 : decode cX10_passHour 80 = .ok (.bipush 10, 2) := by decide +kernel
theorem dX10_passHour_82 : decode cX10_passHour 82 = .ok (.if_icmp .lt 13, 3) := by decide +kernel
theorem dX10_passHour_85 : decode cX10_passHour 85 = .ok (.aload_n 0, 1) := by decide +kernel
theorem dX10_passHour_86 : decode cX10_passHour 86 = .ok (.dup, 1) := by decide +kernel
theorem dX10_passHour_87 : decode cX10_passHour 87 = .ok (.getfield 43, 3) := by decide +kernel
theorem dX10_passHour_90 : decode cX10_passHour 90 = .ok (.iconst 1, 1) := by decide +kernel
theorem dX10_passHour_91 : decode cX10_passHour 91 = .ok (.iadd, 1) := by decide +kernel
theorem dX10_passHour_92 : decode cX10_passHour 92 = .ok (.putfield 43, 3) := by decide +kernel
theorem dX10_passHour_95 : decode cX10_passHour 95 = .ok (.iload_n 2, 1) := by decide +kernel
theorem dX10_passHour_96 : decode cX10_passHour 96 = .ok (.ireturn, 1) := by decide +kernel
theorem dX10_loseMoisture_0 : decode cX10_loseMoisture 0 = .ok (.aload_n 0, 1) := by decide +kernel
theorem dX10_loseMoisture_1 : decode cX10_loseMoisture 1 = .ok (.getfield 34, 3) := by decide +kernel
theorem dX10_loseMoisture_4 : decode cX10_loseMoisture 4 = .ok (.aload_n 0, 1) := by decide +kernel
theorem dX10_loseMoisture_5 : decode cX10_loseMoisture 5 = .ok (.getfield 37, 3) := by decide +kernel
theorem dX10_loseMoisture_8 : decode cX10_loseMoisture 8 = .ok (.iadd, 1) := by decide +kernel
theorem dX10_loseMoisture_9 : decode cX10_loseMoisture 9 = .ok (.istore_n 2, 1) := by decide +kernel
theorem dX10_loseMoisture_10 : decode cX10_loseMoisture 10 = .ok (.aload_n 0, 1) := by decide +kernel
theorem dX10_loseMoisture_11 : decode cX10_loseMoisture 11 = .ok (.aload_n 0, 1) := by decide +kernel
theorem dX10_loseMoisture_12 : decode cX10_loseMoisture 12 = .ok (.getfield 34, 3) := by decide +kernel
theorem dX10_loseMoisture_15 : decode cX10_loseMoisture 15 = .ok (.aload_n 0, 1) := by decide +kernel
theorem dX10_loseMoisture_16 : decode cX10_loseMoisture 16 = .ok (.getfield 18, 3) := by decide +kernel
theorem dX10_loseMoisture_19 : decode cX10_loseMoisture 19 = .ok (.ifCond .eq 7, 3) := by decide +kernel
theorem dX10_loseMoisture_22 : decode cX10_loseMoisture 22 = .ok (.iload_n 1, 1) := by decide +kernel
theorem dX10_loseMoisture_23 : decode cX10_loseMoisture 23 = .ok (.goto 6, 3) := by decide +kernel
theorem dX10_loseMoisture_26 : decode cX10_loseMoisture 26 = .ok (.iload_n 1, 1) := by decide +kernel
theorem dX10_loseMoisture_27 : decode cX10_loseMoisture 27 = .ok (.iconst 2, 1) := by decide +kernel
theorem dX10_loseMoisture_28 : decode cX10_loseMoisture 28 = .ok (.idiv, 1) := by decide +kernel
theorem dX10_loseMoisture_29 : decode cX10_loseMoisture 29 = .ok (.isub, 1) := by decide +kernel
theorem dX10_loseMoisture_30 : decode cX10_loseMoisture 30 = .ok (.invokestatic 66, 3) := by decide +kernel
theorem dX10_loseMoisture_33 : decode cX10_loseMoisture 33 = .ok (.putfield 34, 3) := by decide +kernel
theorem dX10_loseMoisture_36 : decode cX10_loseMoisture 36 = .ok (.aload_n 0, 1) := by decide +kernel
theorem dX10_loseMoisture_37 : decode cX10_loseMoisture 37 = .ok (.aload_n 0, 1) := by decide +kernel
theorem dX10_loseMoisture_38 : decode cX10_loseMoisture 38 = .ok (.getfield 37, 3) := by decide +kernel
theorem dX10_loseMoisture_41 : decode cX10_loseMoisture 41 = .ok (.aload_n 0, 1) := by decide +kernel
theorem dX10_loseMoisture_42 : decode cX10_loseMoisture 42 = .ok (.getfield 18, 3) := by decide +kernel
theorem dX10_loseMoisture_45 : decode cX10_loseMoisture 45 = .ok (.ifCond .eq 9, 3) := by decide +kernel
theorem dX10_loseMoisture_48 : decode cX10_loseMoisture 48 = .ok (.iload_n 1, 1) := by decide +kernel
theorem dX10_loseMoisture_49 : decode cX10_loseMoisture 49 = .ok (.iconst 2, 1) := by decide +kernel
theorem dX10_loseMoisture_50 : decode cX10_loseMoisture 50 = .ok (.idiv, 1) := by decide +kernel
theorem dX10_loseMoisture_51 : decode cX10_loseMoisture 51 = .ok (.goto 4, 3) := by decide +kernel
theorem dX10_loseMoisture_54 : decode cX10_loseMoisture 54 = .ok (.iload_n 1, 1) := by decide +kernel
theorem dX10_loseMoisture_55 : decode cX10_loseMoisture 55 = .ok (.isub, 1) := by decide +kernel
theorem dX10_loseMoisture_56 : decode cX10_loseMoisture 56 = .ok (.invokestatic 66, 3) := by decide +kernel
theorem dX10_loseMoisture_59 : decode cX10_loseMoisture 59 = .ok (.putfield 37, 3) := by decide +kernel
theorem dX10_loseMoisture_62 : decode cX10_loseMoisture 62 = .ok (.iload_n 2, 1) := by decide +kernel
theorem dX10_loseMoisture_63 : decode cX10_loseMoisture 63 = .ok (.aload_n 0, 1) := by decide +kernel
theorem dX10_loseMoisture_64 : decode cX10_loseMoisture 64 = .ok (.getfield 34, 3) := by decide +kernel
theorem dX10_loseMoisture_67 : decode cX10_loseMoisture 67 = .ok (.isub, 1) := by decide +kernel
theorem dX10_loseMoisture_68 : decode cX10_loseMoisture 68 = .ok (.aload_n 0, 1) := by decide +kernel
theorem dX10_loseMoisture_69 : decode cX10_loseMoisture 69 = .ok (.getfield 37, 3) := by decide +kernel
theorem dX10_loseMoisture_72 : decode cX10_loseMoisture 72 = .ok (.isub, 1) := by decide +kernel
theorem dX10_loseMoisture_73 : decode cX10_loseMoisture 73 = .ok (.aload_n 0, 1) := by decide +kernel
theorem dX10_loseMoisture_74 : decode cX10_loseMoisture 74 = .ok (.getfield 25, 3) := by decide +kernel
theorem dX10_loseMoisture_77 : decode cX10_loseMoisture 77 = .ok (.imul, 1) := by decide +kernel
theorem dX10_loseMoisture_78 : decode cX10_loseMoisture 78 = .ok (.istore_n 3, 1) := by decide +kernel
theorem dX10_loseMoisture_79 : decode cX10_loseMoisture 79 = .ok (.aload_n 0, 1) := by decide +kernel
theorem dX10_loseMoisture_80 : decode cX10_loseMoisture 80 = .ok (.dup, 1) := by decide +kernel
theorem dX10_loseMoisture_81 : decode cX10_loseMoisture 81 = .ok (.getfield 31, 3) := by decide +kernel
theorem dX10_loseMoisture_84 : decode cX10_loseMoisture 84 = .ok (.iload_n 3, 1) := by decide +kernel
theorem dX10_loseMoisture_85 : decode cX10_loseMoisture 85 = .ok (.isub, 1) := by decide +kernel
theorem dX10_loseMoisture_86 : decode cX10_loseMoisture 86 = .ok (.putfield 31, 3) := by decide +kernel
theorem dX10_loseMoisture_89 : decode cX10_loseMoisture 89 = .ok (.iload_n 3, 1) := by decide +kernel
theorem dX10_loseMoisture_90 : decode cX10_loseMoisture 90 = .ok (.ireturn, 1) := by decide +kernel
theorem dX10_countViolations_0 : decode cX10_countViolations 0 = .ok (.aload_n 0, 1) := by decide +kernel
theorem dX10_countViolations_1 : decode cX10_countViolations 1 = .ok (.invokevirtual 56, 3) := by decide +kernel
theorem dX10_countViolations_4 : decode cX10_countViolations 4 = .ok (.ifCond .ne 5, 3) := by decide +kernel
theorem dX10_countViolations_7 : decode cX10_countViolations 7 = .ok (.iconst 0, 1) := by decide +kernel
theorem dX10_countViolations_8 : decode cX10_countViolations 8 = .ok (.ireturn, 1) := by decide +kernel
theorem dX10_countViolations_9 : decode cX10_countViolations 9 = .ok (.aload_n 0, 1) := by decide +kernel
theorem dX10_countViolations_10 : decode cX10_countViolations 10 = .ok (.getfield 25, 3) := by decide +kernel
theorem dX10_countViolations_13 : decode cX10_countViolations 13 = .ok (.aload_n 0, 1) := by decide +kernel
theorem dX10_countViolations_14 : decode cX10_countViolations 14 = .ok (.getfield 9, 3) := by decide +kernel
theorem dX10_countViolations_17 : decode cX10_countViolations 17 = .ok (.if_icmp .le 7, 3) := by decide +kernel
theorem dX10_countViolations_20 : decode cX10_countViolations 20 = .ok (.iconst 1, 1) := by decide +kernel
theorem dX10_countViolations_21 : decode cX10_countViolations 21 = .ok (.goto 4, 3) := by decide +kernel
theorem dX10_countViolations_24 : decode cX10_countViolations 24 = .ok (.iconst 0, 1) := by decide +kernel
theorem dX10_countViolations_25 : decode cX10_countViolations 25 = .ok (.istore_n 1, 1) := by decide +kernel
theorem dX10_countViolations_26 : decode cX10_countViolations 26 = .ok (.iload_n 1, 1) := by decide +kernel
theorem dX10_countViolations_27 : decode cX10_countViolations 27 = .ok (.aload_n 0, 1) := by decide +kernel
theorem dX10_countViolations_28 : decode cX10_countViolations 28 = .ok (.getfield 34, 3) := by decide +kernel
theorem dX10_countViolations_31 : decode cX10_countViolations 31 = .ok (.sipush 300, 3) := by decide +kernel
theorem dX10_countViolations_34 : decode cX10_countViolations 34 = .ok (.if_icmp .lt 13, 3) := by decide +kernel
theorem dX10_countViolations_37 : decode cX10_countViolations 37 = .ok (.aload_n 0, 1) := by decide +kernel
theorem dX10_countViolations_38 : decode cX10_countViolations 38 = .ok (.getfield 34, 3) := by decide +kernel
theorem dX10_countViolations_41 : decode cX10_countViolations 41 = .ok (.sipush 900, 3) := by decide +kernel
theorem dX10_countViolations_44 : decode cX10_countViolations 44 = .ok (.if_icmp .le 7, 3) := by decide +kernel
theorem dX10_countViolations_47 : decode cX10_countViolations 47 = .ok (.iconst 1, 1) := by decide +kernel
theorem dX10_countViolations_48 : decode cX10_countViolations 48 = .ok (.goto 4, 3) := by decide +kernel
theorem dX10_countViolations_51 : decode cX10_countViolations 51 = .ok (.iconst 0, 1) := by decide +kernel
theorem dX10_countViolations_52 : decode cX10_countViolations 52 = .ok (.iadd, 1) := by decide +kernel
theorem dX10_countViolations_53 : decode cX10_countViolations 53 = .ok (.istore_n 1, 1) := by decide +kernel
theorem dX10_countViolations_54 : decode cX10_countViolations 54 = .ok (.iload_n 1, 1) := by decide +kernel
theorem dX10_countViolations_55 : decode cX10_countViolations 55 = .ok (.aload_n 0, 1) := by decide +kernel
theorem dX10_countViolations_56 : decode cX10_countViolations 56 = .ok (.getfield 37, 3) := by decide +kernel
theorem dX10_countViolations_59 : decode cX10_countViolations 59 = .ok (.sipush 300, 3) := by decide +kernel
theorem dX10_countViolations_62 : decode cX10_countViolations 62 = .ok (.if_icmp .lt 13, 3) := by decide +kernel
theorem dX10_countViolations_65 : decode cX10_countViolations 65 = .ok (.aload_n 0, 1) := by decide +kernel
theorem dX10_countViolations_66 : decode cX10_countViolations 66 = .ok (.getfield 37, 3) := by decide +kernel
theorem dX10_countViolations_69 : decode cX10_countViolations 69 = .ok (.sipush 900, 3) := by decide +kernel
theorem dX10_countViolations_72 : decode cX10_countViolations 72 = .ok (.if_icmp .le 7, 3) := by decide +kernel
theorem dX10_countViolations_75 : decode cX10_countViolations 75 = .ok (.iconst 1, 1) := by decide +kernel
theorem dX10_countViolations_76 : decode cX10_countViolations 76 = .ok (.goto 4, 3) := by decide +kernel
theorem dX10_countViolations_79 : decode cX10_countViolations 79 = .ok (.iconst 0, 1) := by decide +kernel
theorem dX10_countViolations_80 : decode cX10_countViolations 80 = .ok (.iadd, 1) := by decide +kernel
theorem dX10_countViolations_81 : decode cX10_countViolations 81 = .ok (.istore_n 1, 1) := by decide +kernel
theorem dX10_countViolations_82 : decode cX10_countViolations 82 = .ok (.iload_n 1, 1) := by decide +kernel
theorem dX10_countViolations_83 : decode cX10_countViolations 83 = .ok (.aload_n 0, 1) := by decide +kernel
theorem dX10_countViolations_84 : decode cX10_countViolations 84 = .ok (.getfield 40, 3) := by decide +kernel
theorem dX10_countViolations_87 : decode cX10_countViolations 87 = .ok (.ifCond .lt 12, 3) := by decide +kernel
theorem dX10_countViolations_90 : decode cX10_countViolations 90 = .ok (.aload_n 0, 1) := by decide +kernel
theorem dX10_countViolations_91 : decode cX10_countViolations 91 = .ok (.getfield 40, 3) := by decide +kernel
theorem dX10_countViolations_94 : decode cX10_countViolations 94 = .ok (.bipush 20, 2) := by decide +kernel
theorem dX10_countViolations_96 : decode cX10_countViolations 96 = .ok (.if_icmp .le 7, 3) := by decide +kernel
theorem dX10_countViolations_99 : decode cX10_countViolations 99 = .ok (.iconst 1, 1) := by decide +kernel
theorem dX10_countViolations_100 : decode cX10_countViolations 100 = .ok (.goto 4, 3) := by decide +kernel
theorem dX10_countViolations_103 : decode cX10_countViolations 103 = .ok (.iconst 0, 1) := by decide +kernel
theorem dX10_countViolations_104 : decode cX10_countViolations 104 = .ok (.iadd, 1) := by decide +kernel
theorem dX10_countViolations_105 : decode cX10_countViolations 105 = .ok (.istore_n 1, 1) := by decide +kernel
theorem dX10_countViolations_106 : decode cX10_countViolations 106 = .ok (.iload_n 1, 1) := by decide +kernel
theorem dX10_countViolations_107 : decode cX10_countViolations 107 = .ok (.ireturn, 1) := by decide +kernel
theorem dX11_init_0 : decode cX11_init 0 = .ok (.aload_n 0, 1) := by decide +kernel
theorem dX11_init_1 : decode cX11_init 1 = .ok (.invokespecial 3, 3) := by decide +kernel
theorem dX11_init_4 : decode cX11_init 4 = .ok (.aload_n 0, 1) := by decide +kernel
theorem dX11_init_5 : decode cX11_init 5 = .ok (.new 9, 3) := by decide +kernel
theorem dX11_init_8 : decode cX11_init 8 = .ok (.dup, 1) := by decide +kernel
theorem dX11_init_9 : decode cX11_init 9 = .ok (.invokespecial 11, 3) := by decide +kernel
theorem dX11_init_12 : decode cX11_init 12 = .ok (.putfield 12, 3) := by decide +kernel
theorem dX11_init_15 : decode cX11_init 15 = .ok (.aload_n 0, 1) := by decide +kernel
theorem dX11_init_16 : decode cX11_init 16 = .ok (.new 9, 3) := by decide +kernel
theorem dX11_init_19 : decode cX11_init 19 = .ok (.dup, 1) := by decide +kernel
theorem dX11_init_20 : decode cX11_init 20 = .ok (.invokespecial 11, 3) := by decide +kernel
theorem dX11_init_23 : decode cX11_init 23 = .ok (.putfield 16, 3) := by decide +kernel
theorem dX11_init_26 : decode cX11_init 26 = .ok (.aload_n 0, 1) := by decide +kernel
theorem dX11_init_27 : decode cX11_init 27 = .ok (.new 19, 3) := by decide +kernel
theorem dX11_init_30 : decode cX11_init 30 = .ok (.dup, 1) := by decide +kernel
theorem dX11_init_31 : decode cX11_init 31 = .ok (.invokespecial 21, 3) := by decide +kernel
theorem dX11_init_34 : decode cX11_init 34 = .ok (.putfield 22, 3) := by decide +kernel
theorem dX11_init_37 : decode cX11_init 37 = .ok (.aload_n 0, 1) := by decide +kernel
theorem dX11_init_38 : decode cX11_init 38 = .ok (.new 26, 3) := by decide +kernel
theorem dX11_init_41 : decode cX11_init 41 = .ok (.dup, 1) := by decide +kernel
theorem dX11_init_42 : decode cX11_init 42 = .ok (.invokespecial 28, 3) := by decide +kernel
theorem dX11_init_45 : decode cX11_init 45 = .ok (.putfield 29, 3) := by decide +kernel
theorem dX11_init_48 : decode cX11_init 48 = .ok (.aload_n 0, 1) := by decide +kernel
theorem dX11_init_49 : decode cX11_init 49 = .ok (.new 33, 3) := by decide +kernel
theorem dX11_init_52 : decode cX11_init 52 = .ok (.dup, 1) := by decide +kernel
theorem dX11_init_53 : decode cX11_init 53 = .ok (.invokespecial 35, 3) := by decide +kernel
theorem dX11_init_56 : decode cX11_init 56 = .ok (.putfield 36, 3) := by decide +kernel
theorem dX11_init_59 : decode cX11_init 59 = .ok (.aload_n 0, 1) := by decide +kernel
theorem dX11_init_60 : decode cX11_init 60 = .ok (.new 40, 3) := by decide +kernel
theorem dX11_init_63 : decode cX11_init 63 = .ok (.dup, 1) := by decide +kernel
theorem dX11_init_64 : decode cX11_init 64 = .ok (.invokespecial 42, 3) := by decide +kernel
theorem dX11_init_67 : decode cX11_init 67 = .ok (.putfield 43, 3) := by decide +kernel
theorem dX11_init_70 : decode cX11_init 70 = .ok (.aload_n 0, 1) := by decide +kernel
theorem dX11_init_71 : decode cX11_init 71 = .ok (.getfield 12, 3) := by decide +kernel
theorem dX11_init_74 : decode cX11_init 74 = .ok (.bipush 100, 2) := by decide +kernel
theorem dX11_init_76 : decode cX11_init 76 = .ok (.invokevirtual 47, 3) := by decide +kernel
theorem dX11_init_79 : decode cX11_init 79 = .ok (.pop, 1) := by decide +kernel
theorem dX11_init_80 : decode cX11_init 80 = .ok (.aload_n 0, 1) := by decide +kernel
theorem dX11_init_81 : decode cX11_init 81 = .ok (.getfield 12, 3) := by decide +kernel
theorem dX11_init_84 : decode cX11_init 84 = .ok (.sipush 200, 3) := by decide +kernel
theorem dX11_init_87 : decode cX11_init 87 = .ok (.invokevirtual 47, 3) := by decide +kernel
theorem dX11_init_90 : decode cX11_init 90 = .ok (.pop, 1) := by decide +kernel
theorem dX11_init_91 : decode cX11_init 91 = .ok (.aload_n 0, 1) := by decide +kernel
theorem dX11_init_92 : decode cX11_init 92 = .ok (.getfield 12, 3) := by decide +kernel
theorem dX11_init_95 : decode cX11_init 95 = .ok (.bipush 50, 2) := by decide +kernel
theorem dX11_init_97 : decode cX11_init 97 = .ok (.invokevirtual 47, 3) := by decide +kernel
theorem dX11_init_100 : decode cX11_init 100 = .ok (.pop, 1) := by decide +kernel
theorem dX11_init_101 : decode cX11_init 101 = .ok (.aload_n 0, 1) := by decide +kernel
theorem dX11_init_102 : decode cX11_init 102 = .ok (.getfield 12, 3) := by decide +kernel
theorem dX11_init_105 : decode cX11_init 105 = .ok (.aload_n 0, 1) := by decide +kernel
theorem dX11_init_106 : decode cX11_init 106 = .ok (.getfield 12, 3) := by decide +kernel
theorem dX11_init_109 : decode cX11_init 109 = .ok (.iconst 0, 1) := by decide +kernel
theorem dX11_init_110 : decode cX11_init 110 = .ok (.invokevirtual 51, 3) := by decide +kernel
theorem dX11_init_113 : decode cX11_init 113 = .ok (.bipush 50, 2) := by decide +kernel
theorem dX11_init_115 : decode cX11_init 115 = .ok (.sipush 760, 3) := by decide +kernel
theorem dX11_init_118 : decode cX11_init 118 = .ok (.invokevirtual 55, 3) := by decide +kernel
theorem dX11_init_121 : decode cX11_init 121 = .ok (.aload_n 0, 1) := by decide +kernel
theorem dX11_init_122 : decode cX11_init 122 = .ok (.getfield 12, 3) := by decide +kernel
theorem dX11_init_125 : decode cX11_init 125 = .ok (.aload_n 0, 1) := by decide +kernel
theorem dX11_init_126 : decode cX11_init 126 = .ok (.getfield 12, 3) := by decide +kernel
theorem dX11_init_129 : decode cX11_init 129 = .ok (.iconst 1, 1) := by decide +kernel
theorem dX11_init_130 : decode cX11_init 130 = .ok (.invokevirtual 51, 3) := by decide +kernel
theorem dX11_init_133 : decode cX11_init 133 = .ok (.sipush 200, 3) := by decide +kernel
theorem dX11_init_136 : decode cX11_init 136 = .ok (.sipush 780, 3) := by decide +kernel
theorem dX11_init_139 : decode cX11_init 139 = .ok (.invokevirtual 55, 3) := by decide +kernel
theorem dX11_init_142 : decode cX11_init 142 = .ok (.aload_n 0, 1) := by decide +kernel
theorem dX11_init_143 : decode cX11_init 143 = .ok (.getfield 12, 3) := by decide +kernel
theorem dX11_init_146 : decode cX11_init 146 = .ok (.iconst 0, 1) := by decide +kernel
theorem dX11_init_147 : decode cX11_init 147 = .ok (.invokevirtual 51, 3) := by decide +kernel
theorem dX11_init_150 : decode cX11_init 150 = .ok (.iconst 3, 1) := by decide +kernel
theorem dX11_init_151 : decode cX11_init 151 = .ok (.putfield 59, 3) := by decide +kernel
theorem dX11_init_154 : decode cX11_init 154 = .ok (.aload_n 0, 1) := by decide +kernel
theorem dX11_init_155 : decode cX11_init 155 = .ok (.getfield 12, 3) := by decide +kernel
theorem dX11_init_158 : decode cX11_init 158 = .ok (.iconst 1, 1) := by decide +kernel
theorem dX11_init_159 : decode cX11_init 159 = .ok (.invokevirtual 51, 3) := by decide +kernel
theorem dX11_init_162 : decode cX11_init 162 = .ok (.iconst 4, 1) := by decide +kernel
theorem dX11_init_163 : decode cX11_init 163 = .ok (.putfield 59, 3) := by decide +kernel
theorem dX11_init_166 : decode cX11_init 166 = .ok (.aload_n 0, 1) := by decide +kernel
theorem dX11_init_167 : decode cX11_init 167 = .ok (.getfield 12, 3) := by decide +kernel
theorem dX11_init_170 : decode cX11_init 170 = .ok (.getfield 63, 3) := by decide +kernel
theorem dX11_init_173 : decode cX11_init 173 = .ok (.iconst 1, 1) := by decide +kernel
theorem dX11_init_174 : decode cX11_init 174 = .ok (.invokevirtual 67, 3) := by decide +kernel
theorem dX11_init_177 : decode cX11_init 177 = .ok (.aload_n 0, 1) := by decide +kernel
theorem dX11_init_178 : decode cX11_init 178 = .ok (.getfield 12, 3) := by decide +kernel
theorem dX11_init_181 : decode cX11_init 181 = .ok (.iconst 0, 1) := by decide +kernel
theorem dX11_init_182 : decode cX11_init 182 = .ok (.iconst 1, 1) := by decide +kernel
theorem dX11_init_183 : decode cX11_init 183 = .ok (.bipush 10, 2) := by decide +kernel
theorem dX11_init_185 : decode cX11_init 185 = .ok (.invokevirtual 73, 3) := by decide +kernel
theorem dX11_init_188 : decode cX11_init 188 = .ok (.pop, 1) := by decide +kernel
theorem dX11_init_189 : decode cX11_init 189 = .ok (.aload_n 0, 1) := by decide +kernel
theorem dX11_init_190 : decode cX11_init 190 = .ok (.getfield 12, 3) := by decide +kernel
theorem dX11_init_193 : decode cX11_init 193 = .ok (.iconst 1, 1) := by decide +kernel
theorem dX11_init_194 : decode cX11_init 194 = .ok (.iconst 0, 1) := by decide +kernel
theorem dX11_init_195 : decode cX11_init 195 = .ok (.bipush (-5), 2) := by decide +kernel
theorem dX11_init_197 : decode cX11_init 197 = .ok (.invokevirtual 73, 3) := by decide +kernel
theorem dX11_init_200 : decode cX11_init 200 = .ok (.pop, 1) := by decide +kernel
theorem dX11_init_201 : decode cX11_init 201 = .ok (.aload_n 0, 1) := by decide +kernel
theorem dX11_init_202 : decode cX11_init 202 = .ok (.getfield 12, 3) := by decide +kernel
theorem dX11_init_205 : decode cX11_init 205 = .ok (.iconst 2, 1) := by decide +kernel
theorem dX11_init_206 : decode cX11_init 206 = .ok (.invokevirtual 77, 3) := by decide +kernel
theorem dX11_init_209 : decode cX11_init 209 = .ok (.aload_n 0, 1) := by decide +kernel
theorem dX11_init_210 : decode cX11_init 210 = .ok (.getfield 12, 3) := by decide +kernel
theorem dX11_init_213 : decode cX11_init 213 = .ok (.iconst 0, 1) := by decide +kernel
theorem dX11_init_214 : decode cX11_init 214 = .ok (.invokevirtual 51, 3) := by decide +kernel
theorem dX11_init_217 : decode cX11_init 217 = .ok (.iconst 0, 1) := by decide +kernel
theorem dX11_init_218 : decode cX11_init 218 = .ok (.putfield 80, 3) := by decide +kernel
theorem dX11_init_221 : decode cX11_init 221 = .ok (.aload_n 0, 1) := by decide +kernel
theorem dX11_init_222 : decode cX11_init 222 = .ok (.getfield 12, 3) := by decide +kernel
theorem dX11_init_225 : decode cX11_init 225 = .ok (.iconst 1, 1) := by decide +kernel
theorem dX11_init_226 : decode cX11_init 226 = .ok (.invokevirtual 77, 3) := by decide +kernel
theorem dX11_init_229 : decode cX11_init 229 = .ok (.return_, 1) := by decide +kernel
theorem dX11_append_0 : decode cX11_append 0 = .ok (.aload_n 0, 1) := by decide +kernel
theorem dX11_append_1 : decode cX11_append 1 = .ok (.getfield 29, 3) := by decide +kernel
theorem dX11_append_4 : decode cX11_append 4 = .ok (.getfield 84, 3) := by decide +kernel
theorem dX11_append_7 : decode cX11_append 7 = .ok (.astore 6, 2) := by decide +kernel
theorem dX11_append_9 : decode cX11_append 9 = .ok (.aload 6, 2) := by decide +kernel
theorem dX11_append_11 : decode cX11_append 11 = .ok (.getfield 88, 3) := by decide +kernel
theorem dX11_append_14 : decode cX11_append 14 = .ok (.sipush 580, 3) := by decide +kernel
theorem dX11_append_17 : decode cX11_append 17 = .ok (.if_icmp .le 5, 3) := by decide +kernel
theorem dX11_append_20 : decode cX11_append 20 = .ok (.iconst (-1), 1) := by decide +kernel
theorem dX11_append_21 : decode cX11_append 21 = .ok (.ireturn, 1) := by decide +kernel
theorem dX11_append_22 : decode cX11_append 22 = .ok (.aload 6, 2) := by decide +kernel
theorem dX11_append_24 : decode cX11_append 24 = .ok (.iload_n 1, 1) := by decide +kernel
theorem dX11_append_25 : decode cX11_append 25 = .ok (.invokevirtual 93, 3) := by decide +kernel
theorem dX11_append_28 : decode cX11_append 28 = .ok (.aload 6, 2) := by decide +kernel
theorem dX11_append_30 : decode cX11_append 30 = .ok (.iload_n 2, 1) := by decide +kernel
theorem dX11_append_31 : decode cX11_append 31 = .ok (.invokevirtual 93, 3) := by decide +kernel
theorem dX11_append_34 : decode cX11_append 34 = .ok (.aload 6, 2) := by decide +kernel
theorem dX11_append_36 : decode cX11_append 36 = .ok (.iload_n 3, 1) := by decide +kernel
theorem dX11_append_37 : decode cX11_append 37 = .ok (.invokevirtual 93, 3) := by decide +kernel
theorem dX11_append_40 : decode cX11_append 40 = .ok (.aload 6, 2) := by decide +kernel
theorem dX11_append_42 : decode cX11_append 42 = .ok (.iload 4, 2) := by decide +kernel
theorem dX11_append_44 : decode cX11_append 44 = .ok (.invokevirtual 93, 3) := by decide +kernel
theorem dX11_append_47 : decode cX11_append 47 = .ok (.aload 6, 2) := by decide +kernel
theorem dX11_append_49 : decode cX11_append 49 = .ok (.iload 5, 2) := by decide +kernel
theorem dX11_append_51 : decode cX11_append 51 = .ok (.invokevirtual 93, 3) := by decide +kernel
theorem dX11_append_54 : decode cX11_append 54 = .ok (.aload 6, 2) := by decide +kernel
theorem dX11_append_56 : decode cX11_append 56 = .ok (.getfield 88, 3) := by decide +kernel
theorem dX11_append_59 : decode cX11_append 59 = .ok (.ireturn, 1) := by decide +kernel
theorem dX11_truncateInput_0 : decode cX11_truncateInput 0 = .ok (.iload_n 1, 1) := by decide +kernel
theorem dX11_truncateInput_1 : decode cX11_truncateInput 1 = .ok (.iconst 0, 1) := by decide +kernel
theorem dX11_truncateInput_2 : decode cX11_truncateInput 2 = .ok (.aload_n 0, 1) := by decide +kernel
theorem dX11_truncateInput_3 : decode cX11_truncateInput 3 = .ok (.getfield 29, 3) := by decide +kernel
theorem dX11_truncateInput_6 : decode cX11_truncateInput 6 = .ok (.getfield 84, 3) := by decide +kernel
theorem dX11_truncateInput_9 : decode cX11_truncateInput 9 = .ok (.getfield 88, 3) := by decide +kernel
theorem dX11_truncateInput_12 : decode cX11_truncateInput 12 = .ok (.invokestatic 96, 3) := by decide +kernel
theorem dX11_truncateInput_15 : decode cX11_truncateInput 15 = .ok (.aload_n 0, 1) := by decide +kernel
theorem dX11_truncateInput_16 : decode cX11_truncateInput 16 = .ok (.getfield 29, 3) := by decide +kernel
theorem dX11_truncateInput_19 : decode cX11_truncateInput 19 = .ok (.getfield 84, 3) := by decide +kernel
theorem dX11_truncateInput_22 : decode cX11_truncateInput 22 = .ok (.iload_n 1, 1) := by decide +kernel
theorem dX11_truncateInput_23 : decode cX11_truncateInput 23 = .ok (.putfield 88, 3) := by decide +kernel
theorem dX11_truncateInput_26 : decode cX11_truncateInput 26 = .ok (.iload_n 1, 1) := by decide +kernel
theorem dX11_truncateInput_27 : decode cX11_truncateInput 27 = .ok (.ireturn, 1) := by decide +kernel
theorem dX11_runScript_0 : decode cX11_runScript 0 = .ok (.aload_n 0, 1) := by decide +kernel
theorem dX11_runScript_1 : decode cX11_runScript 1 = .ok (.getfield 29, 3) := by decide +kernel
theorem dX11_runScript_4 : decode cX11_runScript 4 = .ok (.invokevirtual 100, 3) := by decide +kernel
theorem dX11_runScript_7 : decode cX11_runScript 7 = .ok (.istore_n 1, 1) := by decide +kernel
theorem dX11_runScript_8 : decode cX11_runScript 8 = .ok (.aload_n 0, 1) := by decide +kernel
theorem dX11_runScript_9 : decode cX11_runScript 9 = .ok (.getfield 29, 3) := by decide +kernel
theorem dX11_runScript_12 : decode cX11_runScript 12 = .ok (.getfield 84, 3) := by decide +kernel
theorem dX11_runScript_15 : decode cX11_runScript 15 = .ok (.iconst 0, 1) := by decide +kernel
theorem dX11_runScript_16 : decode cX11_runScript 16 = .ok (.putfield 88, 3) := by decide +kernel
theorem dX11_runScript_19 : decode cX11_runScript 19 = .ok (.iload_n 1, 1) := by decide +kernel
theorem dX11_runScript_20 : decode cX11_runScript 20 = .ok (.ifCond .ne 5, 3) := by decide +kernel
theorem dX11_runScript_23 : decode cX11_runScript 23 = .ok (.iconst (-1), 1) := by decide +kernel
theorem dX11_runScript_24 : decode cX11_runScript 24 = .ok (.ireturn, 1) := by decide +kernel
theorem dX11_runScript_25 : decode cX11_runScript 25 = .ok (.aload_n 0, 1) := by decide +kernel
theorem dX11_runScript_26 : decode cX11_runScript 26 = .ok (.getfield 22, 3) := by decide +kernel
theorem dX11_runScript_29 : decode cX11_runScript 29 = .ok (.aload_n 0, 1) := by decide +kernel
theorem dX11_runScript_30 : decode cX11_runScript 30 = .ok (.getfield 12, 3) := by decide +kernel
theorem dX11_runScript_33 : decode cX11_runScript 33 = .ok (.invokevirtual 104, 3) := by decide +kernel
theorem dX11_runScript_36 : decode cX11_runScript 36 = .ok (.aload_n 0, 1) := by decide +kernel
theorem dX11_runScript_37 : decode cX11_runScript 37 = .ok (.getfield 12, 3) := by decide +kernel
theorem dX11_runScript_40 : decode cX11_runScript 40 = .ok (.aload_n 0, 1) := by decide +kernel
theorem dX11_runScript_41 : decode cX11_runScript 41 = .ok (.getfield 29, 3) := by decide +kernel
theorem dX11_runScript_44 : decode cX11_runScript 44 = .ok (.getfield 108, 3) := by decide +kernel
theorem dX11_runScript_47 : decode cX11_runScript 47 = .ok (.invokevirtual 111, 3) := by decide +kernel
theorem dX11_runScript_50 : decode cX11_runScript 50 = .ok (.aload_n 0, 1) := by decide +kernel
theorem dX11_runScript_51 : decode cX11_runScript 51 = .ok (.getfield 12, 3) := by decide +kernel
theorem dX11_runScript_54 : decode cX11_runScript 54 = .ok (.getfield 114, 3) := by decide +kernel
theorem dX11_runScript_57 : decode cX11_runScript 57 = .ok (.ireturn, 1) := by decide +kernel
theorem dX11_addTrough_0 : decode cX11_addTrough 0 = .ok (.iload_n 1, 1) := by decide +kernel
theorem dX11_addTrough_1 : decode cX11_addTrough 1 = .ok (.bipush 10, 2) := by decide +kernel
theorem dX11_addTrough_3 : decode cX11_addTrough 3 = .ok (.sipush 500, 3) := by decide +kernel
theorem dX11_addTrough_6 : decode cX11_addTrough 6 = .ok (.invokestatic 96, 3) := by decide +kernel
theorem dX11_addTrough_9 : decode cX11_addTrough 9 = .ok (.aload_n 0, 1) := by decide +kernel
theorem dX11_addTrough_10 : decode cX11_addTrough 10 = .ok (.getfield 12, 3) := by decide +kernel
theorem dX11_addTrough_13 : decode cX11_addTrough 13 = .ok (.invokevirtual 117, 3) := by decide +kernel
theorem dX11_addTrough_16 : decode cX11_addTrough 16 = .ok (.ifCond .ne 7, 3) := by decide +kernel
theorem dX11_addTrough_19 : decode cX11_addTrough 19 = .ok (.iconst 1, 1) := by decide +kernel
theorem dX11_addTrough_20 : decode cX11_addTrough 20 = .ok (.goto 4, 3) := by decide +kernel
theorem dX11_addTrough_23 : decode cX11_addTrough 23 = .ok (.iconst 0, 1) := by decide +kernel
theorem dX11_addTrough_24 : decode cX11_addTrough 24 = .ok (.invokestatic 120, 3) := by decide +kernel
theorem dX11_addTrough_27 : decode cX11_addTrough 27 = .ok (.aload_n 0, 1) := by decide +kernel
theorem dX11_addTrough_28 : decode cX11_addTrough 28 = .ok (.getfield 22, 3) := by decide +kernel
theorem dX11_addTrough_31 : decode cX11_addTrough 31 = .ok (.aload_n 0, 1) := by decide +kernel
theorem dX11_addTrough_32 : decode cX11_addTrough 32 = .ok (.getfield 12, 3) := by decide +kernel
theorem dX11_addTrough_35 : decode cX11_addTrough 35 = .ok (.invokevirtual 104, 3) := by decide +kernel
theorem dX11_addTrough_38 : decode cX11_addTrough 38 = .ok (.aload_n 0, 1) := by decide +kernel
theorem dX11_addTrough_39 : decode cX11_addTrough 39 = .ok (.getfield 12, 3) := by decide +kernel
theorem dX11_addTrough_42 : decode cX11_addTrough 42 = .ok (.iload_n 1, 1) := by decide +kernel
theorem dX11_addTrough_43 : decode cX11_addTrough 43 = .ok (.invokevirtual 47, 3) := by decide +kernel
theorem dX11_addTrough_46 : decode cX11_addTrough 46 = .ok (.ireturn, 1) := by decide +kernel
theorem dX11_load_0 : decode cX11_load 0 = .ok (.aload_n 0, 1) := by decide +kernel
theorem dX11_load_1 : decode cX11_load 1 = .ok (.iload_n 1, 1) := by decide +kernel
theorem dX11_load_2 : decode cX11_load 2 = .ok (.invokevirtual 124, 3) := by decide +kernel
theorem dX11_load_5 : decode cX11_load 5 = .ok (.astore 4, 2) := by decide +kernel
theorem dX11_load_7 : decode cX11_load 7 = .ok (.iload_n 2, 1) := by decide +kernel
theorem dX11_load_8 : decode cX11_load 8 = .ok (.iconst 1, 1) := by decide +kernel
theorem dX11_load_9 : decode cX11_load 9 = .ok (.aload 4, 2) := by decide +kernel
theorem dX11_load_11 : decode cX11_load 11 = .ok (.getfield 127, 3) := by decide +kernel
theorem dX11_load_14 : decode cX11_load 14 = .ok (.invokestatic 96, 3) := by decide +kernel
theorem dX11_load_17 : decode cX11_load 17 = .ok (.iload_n 3, 1) := by decide +kernel
theorem dX11_load_18 : decode cX11_load 18 = .ok (.sipush 600, 3) := by decide +kernel
theorem dX11_load_21 : decode cX11_load 21 = .ok (.sipush 900, 3) := by decide +kernel
theorem dX11_load_24 : decode cX11_load 24 = .ok (.invokestatic 96, 3) := by decide +kernel
theorem dX11_load_27 : decode cX11_load 27 = .ok (.aload 4, 2) := by decide +kernel
theorem dX11_load_29 : decode cX11_load 29 = .ok (.invokevirtual 130, 3) := by decide +kernel
theorem dX11_load_32 : decode cX11_load 32 = .ok (.invokestatic 120, 3) := by decide +kernel
theorem dX11_load_35 : decode cX11_load 35 = .ok (.aload_n 0, 1) := by decide +kernel
theorem dX11_load_36 : decode cX11_load 36 = .ok (.getfield 22, 3) := by decide +kernel
theorem dX11_load_39 : decode cX11_load 39 = .ok (.aload_n 0, 1) := by decide +kernel
theorem dX11_load_40 : decode cX11_load 40 = .ok (.getfield 12, 3) := by decide +kernel
theorem dX11_load_43 : decode cX11_load 43 = .ok (.invokevirtual 104, 3) := by decide +kernel
theorem dX11_load_46 : decode cX11_load 46 = .ok (.aload_n 0, 1) := by decide +kernel
theorem dX11_load_47 : decode cX11_load 47 = .ok (.getfield 12, 3) := by decide +kernel
theorem dX11_load_50 : decode cX11_load 50 = .ok (.aload 4, 2) := by decide +kernel
theorem dX11_load_52 : decode cX11_load 52 = .ok (.iload_n 2, 1) := by decide +kernel
theorem dX11_load_53 : decode cX11_load 53 = .ok (.iload_n 3, 1) := by decide +kernel
theorem dX11_load_54 : decode cX11_load 54 = .ok (.invokevirtual 55, 3) := by decide +kernel
theorem dX11_load_57 : decode cX11_load 57 = .ok (.aload 4, 2) := by decide +kernel
theorem dX11_load_59 : decode cX11_load 59 = .ok (.getfield 133, 3) := by decide +kernel
theorem dX11_load_62 : decode cX11_load 62 = .ok (.ireturn, 1) := by decide +kernel
theorem dX11_setFan_0 : decode cX11_setFan 0 = .ok (.aload_n 0, 1) := by decide +kernel
theorem dX11_setFan_1 : decode cX11_setFan 1 = .ok (.iload_n 1, 1) := by decide +kernel
theorem dX11_setFan_2 : decode cX11_setFan 2 = .ok (.invokevirtual 124, 3) := by decide +kernel
theorem dX11_setFan_5 : decode cX11_setFan 5 = .ok (.astore_n 3, 1) := by decide +kernel
theorem dX11_setFan_6 : decode cX11_setFan 6 = .ok (.iload_n 2, 1) := by decide +kernel
theorem dX11_setFan_7 : decode cX11_setFan 7 = .ok (.iconst 0, 1) := by decide +kernel
theorem dX11_setFan_8 : decode cX11_setFan 8 = .ok (.iconst 5, 1) := by decide +kernel
theorem dX11_setFan_9 : decode cX11_setFan 9 = .ok (.invokestatic 96, 3) := by decide +kernel
theorem dX11_setFan_12 : decode cX11_setFan 12 = .ok (.aload_n 0, 1) := by decide +kernel
theorem dX11_setFan_13 : decode cX11_setFan 13 = .ok (.getfield 22, 3) := by decide +kernel
theorem dX11_setFan_16 : decode cX11_setFan 16 = .ok (.aload_n 0, 1) := by decide +kernel
theorem dX11_setFan_17 : decode cX11_setFan 17 = .ok (.getfield 12, 3) := by decide +kernel
theorem dX11_setFan_20 : decode cX11_setFan 20 = .ok (.invokevirtual 104, 3) := by decide +kernel
theorem dX11_setFan_23 : decode cX11_setFan 23 = .ok (.aload_n 3, 1) := by decide +kernel
theorem dX11_setFan_24 : decode cX11_setFan 24 = .ok (.getfield 59, 3) := by decide +kernel
theorem dX11_setFan_27 : decode cX11_setFan 27 = .ok (.istore 4, 2) := by decide +kernel
theorem dX11_setFan_29 : decode cX11_setFan 29 = .ok (.aload_n 3, 1) := by decide +kernel
theorem dX11_setFan_30 : decode cX11_setFan 30 = .ok (.iload_n 2, 1) := by decide +kernel
theorem dX11_setFan_31 : decode cX11_setFan 31 = .ok (.putfield 59, 3) := by decide +kernel
theorem dX11_setFan_34 : decode cX11_setFan 34 = .ok (.iload 4, 2) := by decide +kernel
theorem dX11_setFan_36 : decode cX11_setFan 36 = .ok (.ireturn, 1) := by decide +kernel
theorem dX11_reverse_0 : decode cX11_reverse 0 = .ok (.aload_n 0, 1) := by decide +kernel
theorem dX11_reverse_1 : decode cX11_reverse 1 = .ok (.iload_n 1, 1) := by decide +kernel
theorem dX11_reverse_2 : decode cX11_reverse 2 = .ok (.invokevirtual 124, 3) := by decide +kernel
theorem dX11_reverse_5 : decode cX11_reverse 5 = .ok (.astore_n 2, 1) := by decide +kernel
theorem dX11_reverse_6 : decode cX11_reverse 6 = .ok (.aload_n 0, 1) := by decide +kernel
theorem dX11_reverse_7 : decode cX11_reverse 7 = .ok (.getfield 22, 3) := by decide +kernel
theorem dX11_reverse_10 : decode cX11_reverse 10 = .ok (.aload_n 0, 1) := by decide +kernel
theorem dX11_reverse_11 : decode cX11_reverse 11 = .ok (.getfield 12, 3) := by decide +kernel
theorem dX11_reverse_14 : decode cX11_reverse 14 = .ok (.invokevirtual 104, 3) := by decide +kernel
theorem dX11_reverse_17 : decode cX11_reverse 17 = .ok (.aload_n 2, 1) := by decide +kernel
theorem dX11_reverse_18 : decode cX11_reverse 18 = .ok (.aload_n 2, 1) := by decide +kernel
theorem dX11_reverse_19 : decode cX11_reverse 19 = .ok (.getfield 80, 3) := by decide +kernel
theorem dX11_reverse_22 : decode cX11_reverse 22 = .ok (.ifCond .ne 7, 3) := by decide +kernel
theorem dX11_reverse_25 : decode cX11_reverse 25 = .ok (.iconst 1, 1) := by decide +kernel
theorem dX11_reverse_26 : decode cX11_reverse 26 = .ok (.goto 4, 3) := by decide +kernel
theorem dX11_reverse_29 : decode cX11_reverse 29 = .ok (.iconst 0, 1) := by decide +kernel
theorem dX11_reverse_30 : decode cX11_reverse 30 = .ok (.putfield 80, 3) := by decide +kernel
theorem dX11_reverse_33 : decode cX11_reverse 33 = .ok (.aload_n 2, 1) := by decide +kernel
theorem dX11_reverse_34 : decode cX11_reverse 34 = .ok (.getfield 80, 3) := by decide +kernel
theorem dX11_reverse_37 : decode cX11_reverse 37 = .ok (.ireturn, 1) := by decide +kernel
theorem dX11_setHeat_0 : decode cX11_setHeat 0 = .ok (.iload_n 1, 1) := by decide +kernel
theorem dX11_setHeat_1 : decode cX11_setHeat 1 = .ok (.iconst 0, 1) := by decide +kernel
theorem dX11_setHeat_2 : decode cX11_setHeat 2 = .ok (.iconst 5, 1) := by decide +kernel
theorem dX11_setHeat_3 : decode cX11_setHeat 3 = .ok (.invokestatic 96, 3) := by decide +kernel
theorem dX11_setHeat_6 : decode cX11_setHeat 6 = .ok (.aload_n 0, 1) := by decide +kernel
theorem dX11_setHeat_7 : decode cX11_setHeat 7 = .ok (.getfield 22, 3) := by decide +kernel
theorem dX11_setHeat_10 : decode cX11_setHeat 10 = .ok (.aload_n 0, 1) := by decide +kernel
theorem dX11_setHeat_11 : decode cX11_setHeat 11 = .ok (.getfield 12, 3) := by decide +kernel
theorem dX11_setHeat_14 : decode cX11_setHeat 14 = .ok (.invokevirtual 104, 3) := by decide +kernel
theorem dX11_setHeat_17 : decode cX11_setHeat 17 = .ok (.aload_n 0, 1) := by decide +kernel
theorem dX11_setHeat_18 : decode cX11_setHeat 18 = .ok (.getfield 12, 3) := by decide +kernel
theorem dX11_setHeat_21 : decode cX11_setHeat 21 = .ok (.getfield 63, 3) := by decide +kernel
theorem dX11_setHeat_24 : decode cX11_setHeat 24 = .ok (.getfield 136, 3) := by decide +kernel
theorem dX11_setHeat_27 : decode cX11_setHeat 27 = .ok (.istore_n 2, 1) := by decide +kernel
theorem dX11_setHeat_28 : decode cX11_setHeat 28 = .ok (.aload_n 0, 1) := by decide +kernel
theorem dX11_setHeat_29 : decode cX11_setHeat 29 = .ok (.getfield 12, 3) := by decide +kernel
theorem dX11_setHeat_32 : decode cX11_setHeat 32 = .ok (.getfield 63, 3) := by decide +kernel
theorem dX11_setHeat_35 : decode cX11_setHeat 35 = .ok (.iload_n 1, 1) := by decide +kernel
theorem dX11_setHeat_36 : decode cX11_setHeat 36 = .ok (.putfield 136, 3) := by decide +kernel
theorem dX11_setHeat_39 : decode cX11_setHeat 39 = .ok (.iload_n 2, 1) := by decide +kernel
theorem dX11_setHeat_40 : decode cX11_setHeat 40 = .ok (.ireturn, 1) := by decide +kernel
theorem dX11_setHumidity_0 : decode cX11_setHumidity 0 = .ok (.iload_n 1, 1) := by decide +kernel
theorem dX11_setHumidity_1 : decode cX11_setHumidity 1 = .ok (.bipush 20, 2) := by decide +kernel
theorem dX11_setHumidity_3 : decode cX11_setHumidity 3 = .ok (.bipush 95, 2) := by decide +kernel
theorem dX11_setHumidity_5 : decode cX11_setHumidity 5 = .ok (.invokestatic 96, 3) := by decide +kernel
theorem dX11_setHumidity_8 : decode cX11_setHumidity 8 = .ok (.aload_n 0, 1) := by decide +kernel
theorem dX11_setHumidity_9 : decode cX11_setHumidity 9 = .ok (.getfield 22, 3) := by decide +kernel
theorem dX11_setHumidity_12 : decode cX11_setHumidity 12 = .ok (.aload_n 0, 1) := by decide +kernel
theorem dX11_setHumidity_13 : decode cX11_setHumidity 13 = .ok (.getfield 12, 3) := by decide +kernel
theorem dX11_setHumidity_16 : decode cX11_setHumidity 16 = .ok (.invokevirtual 104, 3) := by decide +kernel
theorem dX11_setHumidity_19 : decode cX11_setHumidity 19 = .ok (.aload_n 0, 1) := by decide +kernel
theorem dX11_setHumidity_20 : decode cX11_setHumidity 20 = .ok (.getfield 12, 3) := by decide +kernel
theorem dX11_setHumidity_23 : decode cX11_setHumidity 23 = .ok (.getfield 63, 3) := by decide +kernel
theorem dX11_setHumidity_26 : decode cX11_setHumidity 26 = .ok (.getfield 139, 3) := by decide +kernel
theorem dX11_setHumidity_29 : decode cX11_setHumidity 29 = .ok (.istore_n 2, 1) := by decide +kernel
theorem dX11_setHumidity_30 : decode cX11_setHumidity 30 = .ok (.aload_n 0, 1) := by decide +kernel
theorem dX11_setHumidity_31 : decode cX11_setHumidity 31 = .ok (.getfield 12, 3) := by decide +kernel
theorem dX11_setHumidity_34 : decode cX11_setHumidity 34 = .ok (.getfield 63, 3) := by decide +kernel
theorem dX11_setHumidity_37 : decode cX11_setHumidity 37 = .ok (.iload_n 1, 1) := by decide +kernel
theorem dX11_setHumidity_38 : decode cX11_setHumidity 38 = .ok (.putfield 139, 3) := by decide +kernel
theorem dX11_setHumidity_41 : decode cX11_setHumidity 41 = .ok (.iload_n 2, 1) := by decide +kernel
theorem dX11_setHumidity_42 : decode cX11_setHumidity 42 = .ok (.ireturn, 1) := by decide +kernel
theorem dX11_announceMonsoon_0 : decode cX11_announceMonsoon 0 = .ok (.iload_n 1, 1) := by decide +kernel
theorem dX11_announceMonsoon_1 : decode cX11_announceMonsoon 1 = .ok (.aload_n 0, 1) := by decide +kernel
theorem dX11_announceMonsoon_2 : decode cX11_announceMonsoon 2 = .ok (.getfield 12, 3) := by decide +kernel
theorem dX11_announceMonsoon_5 : decode cX11_announceMonsoon 5 = .ok (.getfield 63, 3) := by decide +kernel
theorem dX11_announceMonsoon_8 : decode cX11_announceMonsoon 8 = .ok (.invokevirtual 142, 3) := by decide +kernel
theorem dX11_announceMonsoon_11 : decode cX11_announceMonsoon 11 = .ok (.bipush 83, 2) := by decide +kernel
theorem dX11_announceMonsoon_13 : decode cX11_announceMonsoon 13 = .ok (.invokestatic 96, 3) := by decide +kernel
theorem dX11_announceMonsoon_16 : decode cX11_announceMonsoon 16 = .ok (.aload_n 0, 1) := by decide +kernel
theorem dX11_announceMonsoon_17 : decode cX11_announceMonsoon 17 = .ok (.getfield 12, 3) := by decide +kernel
theorem dX11_announceMonsoon_20 : decode cX11_announceMonsoon 20 = .ok (.getfield 63, 3) := by decide +kernel
theorem dX11_announceMonsoon_23 : decode cX11_announceMonsoon 23 = .ok (.invokevirtual 146, 3) := by decide +kernel
theorem dX11_announceMonsoon_26 : decode cX11_announceMonsoon 26 = .ok (.ifCond .ne 7, 3) := by decide +kernel
theorem dX11_announceMonsoon_29 : decode cX11_announceMonsoon 29 = .ok (.iconst 1, 1) := by decide +kernel
theorem dX11_announceMonsoon_30 : decode cX11_announceMonsoon 30 = .ok (.goto 4, 3) := by decide +kernel
theorem dX11_announceMonsoon_33 : decode cX11_announceMonsoon 33 = .ok (.iconst 0, 1) := by decide +kernel
theorem dX11_announceMonsoon_34 : decode cX11_announceMonsoon 34 = .ok (.invokestatic 120, 3) := by decide +kernel
theorem dX11_announceMonsoon_37 : decode cX11_announceMonsoon 37 = .ok (.aload_n 0, 1) := by decide +kernel
theorem dX11_announceMonsoon_38 : decode cX11_announceMonsoon 38 = .ok (.getfield 22, 3) := by decide +kernel
theorem dX11_announceMonsoon_41 : decode cX11_announceMonsoon 41 = .ok (.aload_n 0, 1) := by decide +kernel
theorem dX11_announceMonsoon_42 : decode cX11_announceMonsoon 42 = .ok (.getfield 12, 3) := by decide +kernel
theorem dX11_announceMonsoon_45 : decode cX11_announceMonsoon 45 = .ok (.invokevirtual 104, 3) := by decide +kernel
theorem dX11_announceMonsoon_48 : decode cX11_announceMonsoon 48 = .ok (.aload_n 0, 1) := by decide +kernel
theorem dX11_announceMonsoon_49 : decode cX11_announceMonsoon 49 = .ok (.getfield 12, 3) := by decide +kernel
theorem dX11_announceMonsoon_52 : decode cX11_announceMonsoon 52 = .ok (.getfield 63, 3) := by decide +kernel
theorem dX11_announceMonsoon_55 : decode cX11_announceMonsoon 55 = .ok (.iload_n 1, 1) := by decide +kernel
theorem dX11_announceMonsoon_56 : decode cX11_announceMonsoon 56 = .ok (.invokevirtual 67, 3) := by decide +kernel
theorem dX11_announceMonsoon_59 : decode cX11_announceMonsoon 59 = .ok (.aload_n 0, 1) := by decide +kernel
theorem dX11_announceMonsoon_60 : decode cX11_announceMonsoon 60 = .ok (.getfield 12, 3) := by decide +kernel
theorem dX11_announceMonsoon_63 : decode cX11_announceMonsoon 63 = .ok (.getfield 63, 3) := by decide +kernel
theorem dX11_announceMonsoon_66 : decode cX11_announceMonsoon 66 = .ok (.getfield 149, 3) := by decide +kernel
theorem dX11_announceMonsoon_69 : decode cX11_announceMonsoon 69 = .ok (.ireturn, 1) := by decide +kernel
theorem dX11_setTarget_0 : decode cX11_setTarget 0 = .ok (.iload_n 1, 1) := by decide +kernel
theorem dX11_setTarget_1 : decode cX11_setTarget 1 = .ok (.sipush 500, 3) := by decide +kernel
theorem dX11_setTarget_4 : decode cX11_setTarget 4 = .ok (.sipush 700, 3) := by decide +kernel
theorem dX11_setTarget_7 : decode cX11_setTarget 7 = .ok (.invokestatic 96, 3) := by decide +kernel
theorem dX11_setTarget_10 : decode cX11_setTarget 10 = .ok (.iload_n 2, 1) := by decide +kernel
theorem dX11_setTarget_11 : decode cX11_setTarget 11 = .ok (.iconst 5, 1) := by decide +kernel
theorem dX11_setTarget_12 : decode cX11_setTarget 12 = .ok (.bipush 50, 2) := by decide +kernel
theorem dX11_setTarget_14 : decode cX11_setTarget 14 = .ok (.invokestatic 96, 3) := by decide +kernel
theorem dX11_setTarget_17 : decode cX11_setTarget 17 = .ok (.aload_n 0, 1) := by decide +kernel
theorem dX11_setTarget_18 : decode cX11_setTarget 18 = .ok (.getfield 22, 3) := by decide +kernel
theorem dX11_setTarget_21 : decode cX11_setTarget 21 = .ok (.aload_n 0, 1) := by decide +kernel
theorem dX11_setTarget_22 : decode cX11_setTarget 22 = .ok (.getfield 12, 3) := by decide +kernel
theorem dX11_setTarget_25 : decode cX11_setTarget 25 = .ok (.invokevirtual 104, 3) := by decide +kernel
theorem dX11_setTarget_28 : decode cX11_setTarget 28 = .ok (.aload_n 0, 1) := by decide +kernel
theorem dX11_setTarget_29 : decode cX11_setTarget 29 = .ok (.getfield 12, 3) := by decide +kernel
theorem dX11_setTarget_32 : decode cX11_setTarget 32 = .ok (.iload_n 1, 1) := by decide +kernel
theorem dX11_setTarget_33 : decode cX11_setTarget 33 = .ok (.iload_n 2, 1) := by decide +kernel
theorem dX11_setTarget_34 : decode cX11_setTarget 34 = .ok (.invokevirtual 152, 3) := by decide +kernel
theorem dX11_setTarget_37 : decode cX11_setTarget 37 = .ok (.aload_n 0, 1) := by decide +kernel
theorem dX11_setTarget_38 : decode cX11_setTarget 38 = .ok (.getfield 12, 3) := by decide +kernel
theorem dX11_setTarget_41 : decode cX11_setTarget 41 = .ok (.invokevirtual 156, 3) := by decide +kernel
theorem dX11_setTarget_44 : decode cX11_setTarget 44 = .ok (.invokestatic 159, 3) := by decide +kernel
theorem dX11_setTarget_47 : decode cX11_setTarget 47 = .ok (.ireturn, 1) := by decide +kernel
theorem dX11_turnLeaf_0 : decode cX11_turnLeaf 0 = .ok (.aload_n 0, 1) := by decide +kernel
theorem dX11_turnLeaf_1 : decode cX11_turnLeaf 1 = .ok (.iload_n 1, 1) := by decide +kernel
theorem dX11_turnLeaf_2 : decode cX11_turnLeaf 2 = .ok (.invokevirtual 124, 3) := by decide +kernel
theorem dX11_turnLeaf_5 : decode cX11_turnLeaf 5 = .ok (.astore_n 2, 1) := by decide +kernel
theorem dX11_turnLeaf_6 : decode cX11_turnLeaf 6 = .ok (.aload_n 2, 1) := by decide +kernel
theorem dX11_turnLeaf_7 : decode cX11_turnLeaf 7 = .ok (.invokevirtual 130, 3) := by decide +kernel
theorem dX11_turnLeaf_10 : decode cX11_turnLeaf 10 = .ok (.ifCond .ne 7, 3) := by decide +kernel
theorem dX11_turnLeaf_13 : decode cX11_turnLeaf 13 = .ok (.iconst 1, 1) := by decide +kernel
theorem dX11_turnLeaf_14 : decode cX11_turnLeaf 14 = .ok (.goto 4, 3) := by decide +kernel
theorem dX11_turnLeaf_17 : decode cX11_turnLeaf 17 = .ok (.iconst 0, 1) := by decide +kernel
theorem dX11_turnLeaf_18 : decode cX11_turnLeaf 18 = .ok (.invokestatic 120, 3) := by decide +kernel
theorem dX11_turnLeaf_21 : decode cX11_turnLeaf 21 = .ok (.aload_n 0, 1) := by decide +kernel
theorem dX11_turnLeaf_22 : decode cX11_turnLeaf 22 = .ok (.getfield 22, 3) := by decide +kernel
theorem dX11_turnLeaf_25 : decode cX11_turnLeaf 25 = .ok (.aload_n 0, 1) := by decide +kernel
theorem dX11_turnLeaf_26 : decode cX11_turnLeaf 26 = .ok (.getfield 12, 3) := by decide +kernel
theorem dX11_turnLeaf_29 : decode cX11_turnLeaf 29 = .ok (.invokevirtual 104, 3) := by decide +kernel
theorem dX11_turnLeaf_32 : decode cX11_turnLeaf 32 = .ok (.aload_n 2, 1) := by decide +kernel
theorem dX11_turnLeaf_33 : decode cX11_turnLeaf 33 = .ok (.invokevirtual 164, 3) := by decide +kernel
theorem dX11_turnLeaf_36 : decode cX11_turnLeaf 36 = .ok (.aload_n 2, 1) := by decide +kernel
theorem dX11_turnLeaf_37 : decode cX11_turnLeaf 37 = .ok (.getfield 167, 3) := by decide +kernel
theorem dX11_turnLeaf_40 : decode cX11_turnLeaf 40 = .ok (.ireturn, 1) := by decide +kernel
theorem dX11_discharge_0 : decode cX11_discharge 0 = .ok (.aload_n 0, 1) := by decide +kernel
theorem dX11_discharge_1 : decode cX11_discharge 1 = .ok (.iload_n 1, 1) := by decide +kernel
theorem dX11_discharge_2 : decode cX11_discharge 2 = .ok (.invokevirtual 124, 3) := by decide +kernel
theorem dX11_discharge_5 : decode cX11_discharge 5 = .ok (.astore_n 2, 1) := by decide +kernel
theorem dX11_discharge_6 : decode cX11_discharge 6 = .ok (.aload_n 0, 1) := by decide +kernel
theorem dX11_discharge_7 : decode cX11_discharge 7 = .ok (.getfield 12, 3) := by decide +kernel
theorem dX11_discharge_10 : decode cX11_discharge 10 = .ok (.aload_n 2, 1) := by decide +kernel
theorem dX11_discharge_11 : decode cX11_discharge 11 = .ok (.invokevirtual 170, 3) := by decide +kernel
theorem dX11_discharge_14 : decode cX11_discharge 14 = .ok (.ifCond .eq 7, 3) := by decide +kernel
theorem dX11_discharge_17 : decode cX11_discharge 17 = .ok (.iconst 1, 1) := by decide +kernel
theorem dX11_discharge_18 : decode cX11_discharge 18 = .ok (.goto 4, 3) := by decide +kernel
theorem dX11_discharge_21 : decode cX11_discharge 21 = .ok (.iconst 0, 1) := by decide +kernel
theorem dX11_discharge_22 : decode cX11_discharge 22 = .ok (.invokestatic 120, 3) := by decide +kernel
theorem dX11_discharge_25 : decode cX11_discharge 25 = .ok (.aload_n 0, 1) := by decide +kernel
theorem dX11_discharge_26 : decode cX11_discharge 26 = .ok (.getfield 22, 3) := by decide +kernel
theorem dX11_discharge_29 : decode cX11_discharge 29 = .ok (.aload_n 0, 1) := by decide +kernel
theorem dX11_discharge_30 : decode cX11_discharge 30 = .ok (.getfield 12, 3) := by decide +kernel
theorem dX11_discharge_33 : decode cX11_discharge 33 = .ok (.invokevirtual 104, 3) := by decide +kernel
theorem dX11_discharge_36 : decode cX11_discharge 36 = .ok (.aload_n 0, 1) := by decide +kernel
theorem dX11_discharge_37 : decode cX11_discharge 37 = .ok (.getfield 12, 3) := by decide +kernel
theorem dX11_discharge_40 : decode cX11_discharge 40 = .ok (.aload_n 2, 1) := by decide +kernel
theorem dX11_discharge_41 : decode cX11_discharge 41 = .ok (.invokevirtual 174, 3) := by decide +kernel
theorem dX11_discharge_44 : decode cX11_discharge 44 = .ok (.ireturn, 1) := by decide +kernel
theorem dX11_discard_0 : decode cX11_discard 0 = .ok (.aload_n 0, 1) := by decide +kernel
theorem dX11_discard_1 : decode cX11_discard 1 = .ok (.iload_n 1, 1) := by decide +kernel
theorem dX11_discard_2 : decode cX11_discard 2 = .ok (.invokevirtual 124, 3) := by decide +kernel
theorem dX11_discard_5 : decode cX11_discard 5 = .ok (.astore_n 2, 1) := by decide +kernel
theorem dX11_discard_6 : decode cX11_discard 6 = .ok (.aload_n 2, 1) := by decide +kernel
theorem dX11_discard_7 : decode cX11_discard 7 = .ok (.invokevirtual 130, 3) := by decide +kernel
theorem dX11_discard_10 : decode cX11_discard 10 = .ok (.ifCond .ne 7, 3) := by decide +kernel
theorem dX11_discard_13 : decode cX11_discard 13 = .ok (.iconst 1, 1) := by decide +kernel
theorem dX11_discard_14 : decode cX11_discard 14 = .ok (.goto 4, 3) := by decide +kernel
theorem dX11_discard_17 : decode cX11_discard 17 = .ok (.iconst 0, 1) := by decide +kernel
theorem dX11_discard_18 : decode cX11_discard 18 = .ok (.invokestatic 120, 3) := by decide +kernel
theorem dX11_discard_21 : decode cX11_discard 21 = .ok (.aload_n 0, 1) := by decide +kernel
theorem dX11_discard_22 : decode cX11_discard 22 = .ok (.getfield 22, 3) := by decide +kernel
theorem dX11_discard_25 : decode cX11_discard 25 = .ok (.aload_n 0, 1) := by decide +kernel
theorem dX11_discard_26 : decode cX11_discard 26 = .ok (.getfield 12, 3) := by decide +kernel
theorem dX11_discard_29 : decode cX11_discard 29 = .ok (.invokevirtual 104, 3) := by decide +kernel
theorem dX11_discard_32 : decode cX11_discard 32 = .ok (.aload_n 0, 1) := by decide +kernel
theorem dX11_discard_33 : decode cX11_discard 33 = .ok (.getfield 12, 3) := by decide +kernel
theorem dX11_discard_36 : decode cX11_discard 36 = .ok (.aload_n 2, 1) := by decide +kernel
theorem dX11_discard_37 : decode cX11_discard 37 = .ok (.invokevirtual 177, 3) := by decide +kernel
theorem dX11_discard_40 : decode cX11_discard 40 = .ok (.ireturn, 1) := by decide +kernel
theorem dX11_addProbe_0 : decode cX11_addProbe 0 = .ok (.aload_n 0, 1) := by decide +kernel
theorem dX11_addProbe_1 : decode cX11_addProbe 1 = .ok (.iload_n 1, 1) := by decide +kernel
theorem dX11_addProbe_2 : decode cX11_addProbe 2 = .ok (.invokevirtual 124, 3) := by decide +kernel
theorem dX11_addProbe_5 : decode cX11_addProbe 5 = .ok (.pop, 1) := by decide +kernel
theorem dX11_addProbe_6 : decode cX11_addProbe 6 = .ok (.iload_n 2, 1) := by decide +kernel
theorem dX11_addProbe_7 : decode cX11_addProbe 7 = .ok (.iconst 0, 1) := by decide +kernel
theorem dX11_addProbe_8 : decode cX11_addProbe 8 = .ok (.iconst 1, 1) := by decide +kernel
theorem dX11_addProbe_9 : decode cX11_addProbe 9 = .ok (.invokestatic 96, 3) := by decide +kernel
theorem dX11_addProbe_12 : decode cX11_addProbe 12 = .ok (.iload_n 3, 1) := by decide +kernel
theorem dX11_addProbe_13 : decode cX11_addProbe 13 = .ok (.bipush (-50), 2) := by decide +kernel
theorem dX11_addProbe_15 : decode cX11_addProbe 15 = .ok (.bipush 50, 2) := by decide +kernel
theorem dX11_addProbe_17 : decode cX11_addProbe 17 = .ok (.invokestatic 96, 3) := by decide +kernel
theorem dX11_addProbe_20 : decode cX11_addProbe 20 = .ok (.aload_n 0, 1) := by decide +kernel
theorem dX11_addProbe_21 : decode cX11_addProbe 21 = .ok (.getfield 12, 3) := by decide +kernel
theorem dX11_addProbe_24 : decode cX11_addProbe 24 = .ok (.invokevirtual 180, 3) := by decide +kernel
theorem dX11_addProbe_27 : decode cX11_addProbe 27 = .ok (.ifCond .ne 7, 3) := by decide +kernel
theorem dX11_addProbe_30 : decode cX11_addProbe 30 = .ok (.iconst 1, 1) := by decide +kernel
theorem dX11_addProbe_31 : decode cX11_addProbe 31 = .ok (.goto 4, 3) := by decide +kernel
theorem dX11_addProbe_34 : decode cX11_addProbe 34 = .ok (.iconst 0, 1) := by decide +kernel
theorem dX11_addProbe_35 : decode cX11_addProbe 35 = .ok (.invokestatic 120, 3) := by decide +kernel
theorem dX11_addProbe_38 : decode cX11_addProbe 38 = .ok (.aload_n 0, 1) := by decide +kernel
theorem dX11_addProbe_39 : decode cX11_addProbe 39 = .ok (.getfield 22, 3) := by decide +kernel
theorem dX11_addProbe_42 : decode cX11_addProbe 42 = .ok (.aload_n 0, 1) := by decide +kernel
theorem dX11_addProbe_43 : decode cX11_addProbe 43 = .ok (.getfield 12, 3) := by decide +kernel
theorem dX11_addProbe_46 : decode cX11_addProbe 46 = .ok (.invokevirtual 104, 3) := by decide +kernel
theorem dX11_addProbe_49 : decode cX11_addProbe 49 = .ok (.aload_n 0, 1) := by decide +kernel
theorem dX11_addProbe_50 : decode cX11_addProbe 50 = .ok (.getfield 12, 3) := by decide +kernel
theorem dX11_addProbe_53 : decode cX11_addProbe 53 = .ok (.iload_n 1, 1) := by decide +kernel
theorem dX11_addProbe_54 : decode cX11_addProbe 54 = .ok (.iload_n 2, 1) := by decide +kernel
theorem dX11_addProbe_55 : decode cX11_addProbe 55 = .ok (.iload_n 3, 1) := by decide +kernel
theorem dX11_addProbe_56 : decode cX11_addProbe 56 = .ok (.invokevirtual 73, 3) := by decide +kernel
theorem dX11_addProbe_59 : decode cX11_addProbe 59 = .ok (.ireturn, 1) := by decide +kernel
theorem dX11_moveProbe_0 : decode cX11_moveProbe 0 = .ok (.aload_n 0, 1) := by decide +kernel
theorem dX11_moveProbe_1 : decode cX11_moveProbe 1 = .ok (.iload_n 1, 1) := by decide +kernel
theorem dX11_moveProbe_2 : decode cX11_moveProbe 2 = .ok (.invokevirtual 183, 3) := by decide +kernel
theorem dX11_moveProbe_5 : decode cX11_moveProbe 5 = .ok (.astore 4, 2) := by decide +kernel
theorem dX11_moveProbe_7 : decode cX11_moveProbe 7 = .ok (.aload_n 0, 1) := by decide +kernel
theorem dX11_moveProbe_8 : decode cX11_moveProbe 8 = .ok (.iload_n 2, 1) := by decide +kernel
theorem dX11_moveProbe_9 : decode cX11_moveProbe 9 = .ok (.invokevirtual 124, 3) := by decide +kernel
theorem dX11_moveProbe_12 : decode cX11_moveProbe 12 = .ok (.pop, 1) := by decide +kernel
theorem dX11_moveProbe_13 : decode cX11_moveProbe 13 = .ok (.iload_n 3, 1) := by decide +kernel
theorem dX11_moveProbe_14 : decode cX11_moveProbe 14 = .ok (.iconst 0, 1) := by decide +kernel
theorem dX11_moveProbe_15 : decode cX11_moveProbe 15 = .ok (.iconst 1, 1) := by decide +kernel
theorem dX11_moveProbe_16 : decode cX11_moveProbe 16 = .ok (.invokestatic 96, 3) := by decide +kernel
theorem dX11_moveProbe_19 : decode cX11_moveProbe 19 = .ok (.aload_n 0, 1) := by decide +kernel
theorem dX11_moveProbe_20 : decode cX11_moveProbe 20 = .ok (.getfield 22, 3) := by decide +kernel
theorem dX11_moveProbe_23 : decode cX11_moveProbe 23 = .ok (.aload_n 0, 1) := by decide +kernel
theorem dX11_moveProbe_24 : decode cX11_moveProbe 24 = .ok (.getfield 12, 3) := by decide +kernel
theorem dX11_moveProbe_27 : decode cX11_moveProbe 27 = .ok (.invokevirtual 104, 3) := by decide +kernel
theorem dX11_moveProbe_30 : decode cX11_moveProbe 30 = .ok (.aload 4, 2) := by decide +kernel
theorem dX11_moveProbe_32 : decode cX11_moveProbe 32 = .ok (.getfield 187, 3) := by decide +kernel
theorem dX11_moveProbe_35 : decode cX11_moveProbe 35 = .ok (.istore 5, 2) := by decide +kernel
theorem dX11_moveProbe_37 : decode cX11_moveProbe 37 = .ok (.aload 4, 2) := by decide +kernel
theorem dX11_moveProbe_39 : decode cX11_moveProbe 39 = .ok (.iload_n 2, 1) := by decide +kernel
theorem dX11_moveProbe_40 : decode cX11_moveProbe 40 = .ok (.putfield 187, 3) := by decide +kernel
theorem dX11_moveProbe_43 : decode cX11_moveProbe 43 = .ok (.aload 4, 2) := by decide +kernel
theorem dX11_moveProbe_45 : decode cX11_moveProbe 45 = .ok (.iload_n 3, 1) := by decide +kernel
theorem dX11_moveProbe_46 : decode cX11_moveProbe 46 = .ok (.putfield 192, 3) := by decide +kernel
theorem dX11_moveProbe_49 : decode cX11_moveProbe 49 = .ok (.iload 5, 2) := by decide +kernel
theorem dX11_moveProbe_51 : decode cX11_moveProbe 51 = .ok (.ireturn, 1) := by decide +kernel
theorem dX11_calibrate_0 : decode cX11_calibrate 0 = .ok (.aload_n 0, 1) := by decide +kernel
theorem dX11_calibrate_1 : decode cX11_calibrate 1 = .ok (.iload_n 1, 1) := by decide +kernel
theorem dX11_calibrate_2 : decode cX11_calibrate 2 = .ok (.invokevirtual 183, 3) := by decide +kernel
theorem dX11_calibrate_5 : decode cX11_calibrate 5 = .ok (.astore_n 2, 1) := by decide +kernel
theorem dX11_calibrate_6 : decode cX11_calibrate 6 = .ok (.aload_n 0, 1) := by decide +kernel
theorem dX11_calibrate_7 : decode cX11_calibrate 7 = .ok (.getfield 22, 3) := by decide +kernel
theorem dX11_calibrate_10 : decode cX11_calibrate 10 = .ok (.aload_n 0, 1) := by decide +kernel
theorem dX11_calibrate_11 : decode cX11_calibrate 11 = .ok (.getfield 12, 3) := by decide +kernel
theorem dX11_calibrate_14 : decode cX11_calibrate 14 = .ok (.invokevirtual 104, 3) := by decide +kernel
theorem dX11_calibrate_17 : decode cX11_calibrate 17 = .ok (.aload_n 2, 1) := by decide +kernel
theorem dX11_calibrate_18 : decode cX11_calibrate 18 = .ok (.getfield 195, 3) := by decide +kernel
theorem dX11_calibrate_21 : decode cX11_calibrate 21 = .ok (.istore_n 3, 1) := by decide +kernel
theorem dX11_calibrate_22 : decode cX11_calibrate 22 = .ok (.aload_n 2, 1) := by decide +kernel
theorem dX11_calibrate_23 : decode cX11_calibrate 23 = .ok (.iconst 0, 1) := by decide +kernel
theorem dX11_calibrate_24 : decode cX11_calibrate 24 = .ok (.putfield 195, 3) := by decide +kernel
theorem dX11_calibrate_27 : decode cX11_calibrate 27 = .ok (.iload_n 3, 1) := by decide +kernel
theorem dX11_calibrate_28 : decode cX11_calibrate 28 = .ok (.ireturn, 1) := by decide +kernel
theorem dX11_passHours_0 : decode cX11_passHours 0 = .ok (.iload_n 1, 1) := by decide +kernel
theorem dX11_passHours_1 : decode cX11_passHours 1 = .ok (.iconst 1, 1) := by decide +kernel
theorem dX11_passHours_2 : decode cX11_passHours 2 = .ok (.sipush 200, 3) := by decide +kernel
theorem dX11_passHours_5 : decode cX11_passHours 5 = .ok (.invokestatic 96, 3) := by decide +kernel
theorem dX11_passHours_8 : decode cX11_passHours 8 = .ok (.aload_n 0, 1) := by decide +kernel
theorem dX11_passHours_9 : decode cX11_passHours 9 = .ok (.getfield 12, 3) := by decide +kernel
theorem dX11_passHours_12 : decode cX11_passHours 12 = .ok (.getfield 63, 3) := by decide +kernel
theorem dX11_passHours_15 : decode cX11_passHours 15 = .ok (.iload_n 1, 1) := by decide +kernel
theorem dX11_passHours_16 : decode cX11_passHours 16 = .ok (.invokevirtual 198, 3) := by decide +kernel
theorem dX11_passHours_19 : decode cX11_passHours 19 = .ok (.ifCond .ne 7, 3) := by decide +kernel
theorem dX11_passHours_22 : decode cX11_passHours 22 = .ok (.iconst 1, 1) := by decide +kernel
theorem dX11_passHours_23 : decode cX11_passHours 23 = .ok (.goto 4, 3) := by decide +kernel
theorem dX11_passHours_26 : decode cX11_passHours 26 = .ok (.iconst 0, 1) := by decide +kernel
theorem dX11_passHours_27 : decode cX11_passHours 27 = .ok (.invokestatic 120, 3) := by decide +kernel
theorem dX11_passHours_30 : decode cX11_passHours 30 = .ok (.aload_n 0, 1) := by decide +kernel
theorem dX11_passHours_31 : decode cX11_passHours 31 = .ok (.getfield 22, 3) := by decide +kernel
theorem dX11_passHours_34 : decode cX11_passHours 34 = .ok (.aload_n 0, 1) := by decide +kernel
theorem dX11_passHours_35 : decode cX11_passHours 35 = .ok (.getfield 12, 3) := by decide +kernel
theorem dX11_passHours_38 : decode cX11_passHours 38 = .ok (.invokevirtual 104, 3) := by decide +kernel
theorem dX11_passHours_41 : decode cX11_passHours 41 = .ok (.aload_n 0, 1) := by decide +kernel
theorem dX11_passHours_42 : decode cX11_passHours 42 = .ok (.getfield 12, 3) := by decide +kernel
theorem dX11_passHours_45 : decode cX11_passHours 45 = .ok (.iload_n 1, 1) := by decide +kernel
theorem dX11_passHours_46 : decode cX11_passHours 46 = .ok (.invokevirtual 77, 3) := by decide +kernel
theorem dX11_passHours_49 : decode cX11_passHours 49 = .ok (.aload_n 0, 1) := by decide +kernel
theorem dX11_passHours_50 : decode cX11_passHours 50 = .ok (.getfield 12, 3) := by decide +kernel
theorem dX11_passHours_53 : decode cX11_passHours 53 = .ok (.getfield 63, 3) := by decide +kernel
theorem dX11_passHours_56 : decode cX11_passHours 56 = .ok (.getfield 202, 3) := by decide +kernel
theorem dX11_passHours_59 : decode cX11_passHours 59 = .ok (.ireturn, 1) := by decide +kernel
theorem dX11_undo_0 : decode cX11_undo 0 = .ok (.aload_n 0, 1) := by decide +kernel
theorem dX11_undo_1 : decode cX11_undo 1 = .ok (.getfield 22, 3) := by decide +kernel
theorem dX11_undo_4 : decode cX11_undo 4 = .ok (.getfield 205, 3) := by decide +kernel
theorem dX11_undo_7 : decode cX11_undo 7 = .ok (.ifCond .ne 5, 3) := by decide +kernel
theorem dX11_undo_10 : decode cX11_undo 10 = .ok (.iconst (-1), 1) := by decide +kernel
theorem dX11_undo_11 : decode cX11_undo 11 = .ok (.ireturn, 1) := by decide +kernel
theorem dX11_undo_12 : decode cX11_undo 12 = .ok (.aload_n 0, 1) := by decide +kernel
theorem dX11_undo_13 : decode cX11_undo 13 = .ok (.getfield 22, 3) := by decide +kernel
theorem dX11_undo_16 : decode cX11_undo 16 = .ok (.aload_n 0, 1) := by decide +kernel
theorem dX11_undo_17 : decode cX11_undo 17 = .ok (.getfield 12, 3) := by decide +kernel
theorem dX11_undo_20 : decode cX11_undo 20 = .ok (.invokevirtual 208, 3) := by decide +kernel
theorem dX11_undo_23 : decode cX11_undo 23 = .ok (.aload_n 0, 1) := by decide +kernel
theorem dX11_undo_24 : decode cX11_undo 24 = .ok (.getfield 22, 3) := by decide +kernel
theorem dX11_undo_27 : decode cX11_undo 27 = .ok (.getfield 205, 3) := by decide +kernel
theorem dX11_undo_30 : decode cX11_undo 30 = .ok (.ireturn, 1) := by decide +kernel
theorem dX11_undoCount_0 : decode cX11_undoCount 0 = .ok (.aload_n 0, 1) := by decide +kernel
theorem dX11_undoCount_1 : decode cX11_undoCount 1 = .ok (.getfield 22, 3) := by decide +kernel
theorem dX11_undoCount_4 : decode cX11_undoCount 4 = .ok (.getfield 205, 3) := by decide +kernel
theorem dX11_undoCount_7 : decode cX11_undoCount 7 = .ok (.ireturn, 1) := by decide +kernel
theorem dX11_saveSnapshot_0 : decode cX11_saveSnapshot 0 = .ok (.aload_n 0, 1) := by decide +kernel
theorem dX11_saveSnapshot_1 : decode cX11_saveSnapshot 1 = .ok (.getfield 16, 3) := by decide +kernel
theorem dX11_saveSnapshot_4 : decode cX11_saveSnapshot 4 = .ok (.aload_n 0, 1) := by decide +kernel
theorem dX11_saveSnapshot_5 : decode cX11_saveSnapshot 5 = .ok (.getfield 12, 3) := by decide +kernel
theorem dX11_saveSnapshot_8 : decode cX11_saveSnapshot 8 = .ok (.invokevirtual 111, 3) := by decide +kernel
theorem dX11_saveSnapshot_11 : decode cX11_saveSnapshot 11 = .ok (.aload_n 0, 1) := by decide +kernel
theorem dX11_saveSnapshot_12 : decode cX11_saveSnapshot 12 = .ok (.iconst 1, 1) := by decide +kernel
theorem dX11_saveSnapshot_13 : decode cX11_saveSnapshot 13 = .ok (.putfield 211, 3) := by decide +kernel
theorem dX11_saveSnapshot_16 : decode cX11_saveSnapshot 16 = .ok (.aload_n 0, 1) := by decide +kernel
theorem dX11_saveSnapshot_17 : decode cX11_saveSnapshot 17 = .ok (.getfield 12, 3) := by decide +kernel
theorem dX11_saveSnapshot_20 : decode cX11_saveSnapshot 20 = .ok (.getfield 63, 3) := by decide +kernel
theorem dX11_saveSnapshot_23 : decode cX11_saveSnapshot 23 = .ok (.getfield 202, 3) := by decide +kernel
theorem dX11_saveSnapshot_26 : decode cX11_saveSnapshot 26 = .ok (.ireturn, 1) := by decide +kernel
theorem dX11_restoreSnapshot_0 : decode cX11_restoreSnapshot 0 = .ok (.aload_n 0, 1) := by decide +kernel
theorem dX11_restoreSnapshot_1 : decode cX11_restoreSnapshot 1 = .ok (.getfield 211, 3) := by decide +kernel
theorem dX11_restoreSnapshot_4 : decode cX11_restoreSnapshot 4 = .ok (.ifCond .ne 13, 3) := by decide +kernel
theorem dX11_restoreSnapshot_7 : decode cX11_restoreSnapshot 7 = .ok (.new 214, 3) := by decide +kernel
theorem dX11_restoreSnapshot_10 : decode cX11_restoreSnapshot 10 = .ok (.dup, 1) := by decide +kernel
theorem dX11_restoreSnapshot_11 : decode cX11_restoreSnapshot 11 = .ok (.ldc 216, 2) := by decide +kernel
theorem dX11_restoreSnapshot_13 : decode cX11_restoreSnapshot 13 = .ok (.invokespecial 218, 3) := by decide +kernel
theorem dX11_restoreSnapshot_16 : decode cX11_restoreSnapshot 16 = .ok (.athrow, 1) := by decide +kernel
theorem dX11_restoreSnapshot_17 : decode cX11_restoreSnapshot 17 = .ok (.aload_n 0, 1) := by decide +kernel
theorem dX11_restoreSnapshot_18 : decode cX11_restoreSnapshot 18 = .ok (.getfield 12, 3) := by decide +kernel
theorem dX11_restoreSnapshot_21 : decode cX11_restoreSnapshot 21 = .ok (.aload_n 0, 1) := by decide +kernel
theorem dX11_restoreSnapshot_22 : decode cX11_restoreSnapshot 22 = .ok (.getfield 16, 3) := by decide +kernel
theorem dX11_restoreSnapshot_25 : decode cX11_restoreSnapshot 25 = .ok (.invokevirtual 111, 3) := by decide +kernel
theorem dX11_restoreSnapshot_28 : decode cX11_restoreSnapshot 28 = .ok (.aload_n 0, 1) := by decide +kernel
theorem dX11_restoreSnapshot_29 : decode cX11_restoreSnapshot 29 = .ok (.getfield 22, 3) := by decide +kernel
theorem dX11_restoreSnapshot_32 : decode cX11_restoreSnapshot 32 = .ok (.iconst 0, 1) := by decide +kernel
theorem dX11_restoreSnapshot_33 : decode cX11_restoreSnapshot 33 = .ok (.putfield 205, 3) := by decide +kernel
theorem dX11_restoreSnapshot_36 : decode cX11_restoreSnapshot 36 = .ok (.aload_n 0, 1) := by decide +kernel
theorem dX11_restoreSnapshot_37 : decode cX11_restoreSnapshot 37 = .ok (.getfield 12, 3) := by decide +kernel
theorem dX11_restoreSnapshot_40 : decode cX11_restoreSnapshot 40 = .ok (.getfield 63, 3) := by decide +kernel
theorem dX11_restoreSnapshot_43 : decode cX11_restoreSnapshot 43 = .ok (.getfield 202, 3) := by decide +kernel
theorem dX11_restoreSnapshot_46 : decode cX11_restoreSnapshot 46 = .ok (.ireturn, 1) := by decide +kernel
theorem dX11_scriptErrorKind_0 : decode cX11_scriptErrorKind 0 = .ok (.aload_n 0, 1) := by decide +kernel
theorem dX11_scriptErrorKind_1 : decode cX11_scriptErrorKind 1 = .ok (.getfield 29, 3) := by decide +kernel
theorem dX11_scriptErrorKind_4 : decode cX11_scriptErrorKind 4 = .ok (.getfield 221, 3) := by decide +kernel
theorem dX11_scriptErrorKind_7 : decode cX11_scriptErrorKind 7 = .ok (.ireturn, 1) := by decide +kernel
theorem dX11_scriptErrorOffset_0 : decode cX11_scriptErrorOffset 0 = .ok (.aload_n 0, 1) := by decide +kernel
theorem dX11_scriptErrorOffset_1 : decode cX11_scriptErrorOffset 1 = .ok (.getfield 29, 3) := by decide +kernel
theorem dX11_scriptErrorOffset_4 : decode cX11_scriptErrorOffset 4 = .ok (.getfield 221, 3) := by decide +kernel
theorem dX11_scriptErrorOffset_7 : decode cX11_scriptErrorOffset 7 = .ok (.ifCond .ne 7, 3) := by decide +kernel
theorem dX11_scriptErrorOffset_10 : decode cX11_scriptErrorOffset 10 = .ok (.iconst (-1), 1) := by decide +kernel
theorem dX11_scriptErrorOffset_11 : decode cX11_scriptErrorOffset 11 = .ok (.goto 10, 3) := by decide +kernel
theorem dX11_scriptErrorOffset_14 : decode cX11_scriptErrorOffset 14 = .ok (.aload_n 0, 1) := by decide +kernel
theorem dX11_scriptErrorOffset_15 : decode cX11_scriptErrorOffset 15 = .ok (.getfield 29, 3) := by decide +kernel
theorem dX11_scriptErrorOffset_18 : decode cX11_scriptErrorOffset 18 = .ok (.getfield 224, 3) := by decide +kernel
theorem dX11_scriptErrorOffset_21 : decode cX11_scriptErrorOffset 21 = .ok (.ireturn, 1) := by decide +kernel
theorem dX11_hour_0 : decode cX11_hour 0 = .ok (.aload_n 0, 1) := by decide +kernel
theorem dX11_hour_1 : decode cX11_hour 1 = .ok (.getfield 12, 3) := by decide +kernel
theorem dX11_hour_4 : decode cX11_hour 4 = .ok (.getfield 63, 3) := by decide +kernel
theorem dX11_hour_7 : decode cX11_hour 7 = .ok (.getfield 202, 3) := by decide +kernel
theorem dX11_hour_10 : decode cX11_hour 10 = .ok (.ireturn, 1) := by decide +kernel
theorem dX11_day_0 : decode cX11_day 0 = .ok (.aload_n 0, 1) := by decide +kernel
theorem dX11_day_1 : decode cX11_day 1 = .ok (.getfield 12, 3) := by decide +kernel
theorem dX11_day_4 : decode cX11_day 4 = .ok (.getfield 63, 3) := by decide +kernel
theorem dX11_day_7 : decode cX11_day 7 = .ok (.invokevirtual 142, 3) := by decide +kernel
theorem dX11_day_10 : decode cX11_day 10 = .ok (.ireturn, 1) := by decide +kernel
theorem dX11_humidityAt_0 : decode cX11_humidityAt 0 = .ok (.iload_n 1, 1) := by decide +kernel
theorem dX11_humidityAt_1 : decode cX11_humidityAt 1 = .ok (.iconst 0, 1) := by decide +kernel
theorem dX11_humidityAt_2 : decode cX11_humidityAt 2 = .ok (.sipush 2000, 3) := by decide +kernel
theorem dX11_humidityAt_5 : decode cX11_humidityAt 5 = .ok (.invokestatic 96, 3) := by decide +kernel
theorem dX11_humidityAt_8 : decode cX11_humidityAt 8 = .ok (.aload_n 0, 1) := by decide +kernel
theorem dX11_humidityAt_9 : decode cX11_humidityAt 9 = .ok (.getfield 12, 3) := by decide +kernel
theorem dX11_humidityAt_12 : decode cX11_humidityAt 12 = .ok (.getfield 63, 3) := by decide +kernel
theorem dX11_humidityAt_15 : decode cX11_humidityAt 15 = .ok (.iload_n 1, 1) := by decide +kernel
theorem dX11_humidityAt_16 : decode cX11_humidityAt 16 = .ok (.invokevirtual 227, 3) := by decide +kernel
theorem dX11_humidityAt_19 : decode cX11_humidityAt 19 = .ok (.ireturn, 1) := by decide +kernel
theorem dX11_dryness_0 : decode cX11_dryness 0 = .ok (.aload_n 0, 1) := by decide +kernel
theorem dX11_dryness_1 : decode cX11_dryness 1 = .ok (.getfield 12, 3) := by decide +kernel
theorem dX11_dryness_4 : decode cX11_dryness 4 = .ok (.getfield 63, 3) := by decide +kernel
theorem dX11_dryness_7 : decode cX11_dryness 7 = .ok (.aload_n 0, 1) := by decide +kernel
theorem dX11_dryness_8 : decode cX11_dryness 8 = .ok (.getfield 12, 3) := by decide +kernel
theorem dX11_dryness_11 : decode cX11_dryness 11 = .ok (.getfield 63, 3) := by decide +kernel
theorem dX11_dryness_14 : decode cX11_dryness 14 = .ok (.getfield 202, 3) := by decide +kernel
theorem dX11_dryness_17 : decode cX11_dryness 17 = .ok (.invokevirtual 230, 3) := by decide +kernel
theorem dX11_dryness_20 : decode cX11_dryness 20 = .ok (.ireturn, 1) := by decide +kernel
theorem dX11_hoursToMonsoon_0 : decode cX11_hoursToMonsoon 0 = .ok (.aload_n 0, 1) := by decide +kernel
theorem dX11_hoursToMonsoon_1 : decode cX11_hoursToMonsoon 1 = .ok (.getfield 12, 3) := by decide +kernel
theorem dX11_hoursToMonsoon_4 : decode cX11_hoursToMonsoon 4 = .ok (.getfield 63, 3) := by decide +kernel
theorem dX11_hoursToMonsoon_7 : decode cX11_hoursToMonsoon 7 = .ok (.invokevirtual 233, 3) := by decide +kernel
theorem dX11_hoursToMonsoon_10 : decode cX11_hoursToMonsoon 10 = .ok (.ireturn, 1) := by decide +kernel
theorem dX11_isMonsoon_0 : decode cX11_isMonsoon 0 = .ok (.aload_n 0, 1) := by decide +kernel
theorem dX11_isMonsoon_1 : decode cX11_isMonsoon 1 = .ok (.getfield 12, 3) := by decide +kernel
theorem dX11_isMonsoon_4 : decode cX11_isMonsoon 4 = .ok (.getfield 63, 3) := by decide +kernel
theorem dX11_isMonsoon_7 : decode cX11_isMonsoon 7 = .ok (.aload_n 0, 1) := by decide +kernel
theorem dX11_isMonsoon_8 : decode cX11_isMonsoon 8 = .ok (.getfield 12, 3) := by decide +kernel
theorem dX11_isMonsoon_11 : decode cX11_isMonsoon 11 = .ok (.getfield 63, 3) := by decide +kernel
theorem dX11_isMonsoon_14 : decode cX11_isMonsoon 14 = .ok (.getfield 202, 3) := by decide +kernel
theorem dX11_isMonsoon_17 : decode cX11_isMonsoon 17 = .ok (.invokevirtual 236, 3) := by decide +kernel
theorem dX11_isMonsoon_20 : decode cX11_isMonsoon 20 = .ok (.ireturn, 1) := by decide +kernel
theorem dX11_troughCount_0 : decode cX11_troughCount 0 = .ok (.aload_n 0, 1) := by decide +kernel
theorem dX11_troughCount_1 : decode cX11_troughCount 1 = .ok (.getfield 12, 3) := by decide +kernel
theorem dX11_troughCount_4 : decode cX11_troughCount 4 = .ok (.getfield 114, 3) := by decide +kernel
theorem dX11_troughCount_7 : decode cX11_troughCount 7 = .ok (.ireturn, 1) := by decide +kernel
theorem dX11_probeCount_0 : decode cX11_probeCount 0 = .ok (.aload_n 0, 1) := by decide +kernel
theorem dX11_probeCount_1 : decode cX11_probeCount 1 = .ok (.getfield 12, 3) := by decide +kernel
theorem dX11_probeCount_4 : decode cX11_probeCount 4 = .ok (.getfield 239, 3) := by decide +kernel
theorem dX11_probeCount_7 : decode cX11_probeCount 7 = .ok (.ireturn, 1) := by decide +kernel
theorem dX11_capacity_0 : decode cX11_capacity 0 = .ok (.aload_n 0, 1) := by decide +kernel
theorem dX11_capacity_1 : decode cX11_capacity 1 = .ok (.iload_n 1, 1) := by decide +kernel
theorem dX11_capacity_2 : decode cX11_capacity 2 = .ok (.invokevirtual 124, 3) := by decide +kernel
theorem dX11_capacity_5 : decode cX11_capacity 5 = .ok (.getfield 127, 3) := by decide +kernel
theorem dX11_capacity_8 : decode cX11_capacity 8 = .ok (.ireturn, 1) := by decide +kernel
theorem dX11_kilograms_0 : decode cX11_kilograms 0 = .ok (.aload_n 0, 1) := by decide +kernel
theorem dX11_kilograms_1 : decode cX11_kilograms 1 = .ok (.iload_n 1, 1) := by decide +kernel
theorem dX11_kilograms_2 : decode cX11_kilograms 2 = .ok (.invokevirtual 124, 3) := by decide +kernel
theorem dX11_kilograms_5 : decode cX11_kilograms 5 = .ok (.getfield 242, 3) := by decide +kernel
theorem dX11_kilograms_8 : decode cX11_kilograms 8 = .ok (.ireturn, 1) := by decide +kernel
theorem dX11_fill_0 : decode cX11_fill 0 = .ok (.aload_n 0, 1) := by decide +kernel
theorem dX11_fill_1 : decode cX11_fill 1 = .ok (.iload_n 1, 1) := by decide +kernel
theorem dX11_fill_2 : decode cX11_fill 2 = .ok (.invokevirtual 124, 3) := by decide +kernel
theorem dX11_fill_5 : decode cX11_fill 5 = .ok (.getfield 133, 3) := by decide +kernel
theorem dX11_fill_8 : decode cX11_fill 8 = .ok (.ireturn, 1) := by decide +kernel
theorem dX11_speed_0 : decode cX11_speed 0 = .ok (.aload_n 0, 1) := by decide +kernel
theorem dX11_speed_1 : decode cX11_speed 1 = .ok (.iload_n 1, 1) := by decide +kernel
theorem dX11_speed_2 : decode cX11_speed 2 = .ok (.invokevirtual 124, 3) := by decide +kernel
theorem dX11_speed_5 : decode cX11_speed 5 = .ok (.getfield 59, 3) := by decide +kernel
theorem dX11_speed_8 : decode cX11_speed 8 = .ok (.ireturn, 1) := by decide +kernel
theorem dX11_isUpwards_0 : decode cX11_isUpwards 0 = .ok (.aload_n 0, 1) := by decide +kernel
theorem dX11_isUpwards_1 : decode cX11_isUpwards 1 = .ok (.iload_n 1, 1) := by decide +kernel
theorem dX11_isUpwards_2 : decode cX11_isUpwards 2 = .ok (.invokevirtual 124, 3) := by decide +kernel
theorem dX11_isUpwards_5 : decode cX11_isUpwards 5 = .ok (.getfield 80, 3) := by decide +kernel
theorem dX11_isUpwards_8 : decode cX11_isUpwards 8 = .ok (.ireturn, 1) := by decide +kernel
theorem dX11_moisture_0 : decode cX11_moisture 0 = .ok (.aload_n 0, 1) := by decide +kernel
theorem dX11_moisture_1 : decode cX11_moisture 1 = .ok (.iload_n 1, 1) := by decide +kernel
theorem dX11_moisture_2 : decode cX11_moisture 2 = .ok (.invokevirtual 124, 3) := by decide +kernel
theorem dX11_moisture_5 : decode cX11_moisture 5 = .ok (.astore_n 3, 1) := by decide +kernel
theorem dX11_moisture_6 : decode cX11_moisture 6 = .ok (.iload_n 2, 1) := by decide +kernel
theorem dX11_moisture_7 : decode cX11_moisture 7 = .ok (.iconst 0, 1) := by decide +kernel
theorem dX11_moisture_8 : decode cX11_moisture 8 = .ok (.iconst 1, 1) := by decide +kernel
theorem dX11_moisture_9 : decode cX11_moisture 9 = .ok (.invokestatic 96, 3) := by decide +kernel
theorem dX11_moisture_12 : decode cX11_moisture 12 = .ok (.aload_n 3, 1) := by decide +kernel
theorem dX11_moisture_13 : decode cX11_moisture 13 = .ok (.invokevirtual 130, 3) := by decide +kernel
theorem dX11_moisture_16 : decode cX11_moisture 16 = .ok (.ifCond .eq 11, 3) := by decide +kernel
theorem dX11_moisture_19 : decode cX11_moisture 19 = .ok (.aload_n 3, 1) := by decide +kernel
theorem dX11_moisture_20 : decode cX11_moisture 20 = .ok (.iload_n 2, 1) := by decide +kernel
theorem dX11_moisture_21 : decode cX11_moisture 21 = .ok (.invokevirtual 245, 3) := by decide +kernel
theorem dX11_moisture_24 : decode cX11_moisture 24 = .ok (.goto 4, 3) := by decide +kernel
theorem dX11_moisture_27 : decode cX11_moisture 27 = .ok (.iconst (-1), 1) := by decide +kernel
theorem dX11_moisture_28 : decode cX11_moisture 28 = .ok (.ireturn, 1) := by decide +kernel
theorem dX11_spread_0 : decode cX11_spread 0 = .ok (.aload_n 0, 1) := by decide +kernel
theorem dX11_spread_1 : decode cX11_spread 1 = .ok (.iload_n 1, 1) := by decide +kernel
theorem dX11_spread_2 : decode cX11_spread 2 = .ok (.invokevirtual 124, 3) := by decide +kernel
theorem dX11_spread_5 : decode cX11_spread 5 = .ok (.astore_n 2, 1) := by decide +kernel
theorem dX11_spread_6 : decode cX11_spread 6 = .ok (.aload_n 2, 1) := by decide +kernel
theorem dX11_spread_7 : decode cX11_spread 7 = .ok (.invokevirtual 130, 3) := by decide +kernel
theorem dX11_spread_10 : decode cX11_spread 10 = .ok (.ifCond .eq 10, 3) := by decide +kernel
theorem dX11_spread_13 : decode cX11_spread 13 = .ok (.aload_n 2, 1) := by decide +kernel
theorem dX11_spread_14 : decode cX11_spread 14 = .ok (.invokevirtual 248, 3) := by decide +kernel
theorem dX11_spread_17 : decode cX11_spread 17 = .ok (.goto 4, 3) := by decide +kernel
theorem dX11_spread_20 : decode cX11_spread 20 = .ok (.iconst (-1), 1) := by decide +kernel
theorem dX11_spread_21 : decode cX11_spread 21 = .ok (.ireturn, 1) := by decide +kernel
theorem dX11_warmth_0 : decode cX11_warmth 0 = .ok (.aload_n 0, 1) := by decide +kernel
theorem dX11_warmth_1 : decode cX11_warmth 1 = .ok (.iload_n 1, 1) := by decide +kernel
theorem dX11_warmth_2 : decode cX11_warmth 2 = .ok (.invokevirtual 124, 3) := by decide +kernel
theorem dX11_warmth_5 : decode cX11_warmth 5 = .ok (.astore_n 2, 1) := by decide +kernel
theorem dX11_warmth_6 : decode cX11_warmth 6 = .ok (.aload_n 2, 1) := by decide +kernel
theorem dX11_warmth_7 : decode cX11_warmth 7 = .ok (.invokevirtual 130, 3) := by decide +kernel
theorem dX11_warmth_10 : decode cX11_warmth 10 = .ok (.ifCond .eq 10, 3) := by decide +kernel
theorem dX11_warmth_13 : decode cX11_warmth 13 = .ok (.aload_n 2, 1) := by decide +kernel
theorem dX11_warmth_14 : decode cX11_warmth 14 = .ok (.getfield 251, 3) := by decide +kernel
theorem dX11_warmth_17 : decode cX11_warmth 17 = .ok (.goto 4, 3) := by decide +kernel
theorem dX11_warmth_20 : decode cX11_warmth 20 = .ok (.iconst (-1), 1) := by decide +kernel
theorem dX11_warmth_21 : decode cX11_warmth 21 = .ok (.ireturn, 1) := by decide +kernel
theorem dX11_damage_0 : decode cX11_damage 0 = .ok (.aload_n 0, 1) := by decide +kernel
theorem dX11_damage_1 : decode cX11_damage 1 = .ok (.iload_n 1, 1) := by decide +kernel
theorem dX11_damage_2 : decode cX11_damage 2 = .ok (.invokevirtual 124, 3) := by decide +kernel
theorem dX11_damage_5 : decode cX11_damage 5 = .ok (.astore_n 2, 1) := by decide +kernel
theorem dX11_damage_6 : decode cX11_damage 6 = .ok (.aload_n 2, 1) := by decide +kernel
theorem dX11_damage_7 : decode cX11_damage 7 = .ok (.invokevirtual 130, 3) := by decide +kernel
theorem dX11_damage_10 : decode cX11_damage 10 = .ok (.ifCond .eq 10, 3) := by decide +kernel
theorem dX11_damage_13 : decode cX11_damage 13 = .ok (.aload_n 2, 1) := by decide +kernel
theorem dX11_damage_14 : decode cX11_damage 14 = .ok (.getfield 254, 3) := by decide +kernel
theorem dX11_damage_17 : decode cX11_damage 17 = .ok (.goto 4, 3) := by decide +kernel
theorem dX11_damage_20 : decode cX11_damage 20 = .ok (.iconst (-1), 1) := by decide +kernel
theorem dX11_damage_21 : decode cX11_damage 21 = .ok (.ireturn, 1) := by decide +kernel
theorem dX11_marks_0 : decode cX11_marks 0 = .ok (.aload_n 0, 1) := by decide +kernel
theorem dX11_marks_1 : decode cX11_marks 1 = .ok (.iload_n 1, 1) := by decide +kernel
theorem dX11_marks_2 : decode cX11_marks 2 = .ok (.invokevirtual 124, 3) := by decide +kernel
theorem dX11_marks_5 : decode cX11_marks 5 = .ok (.astore_n 2, 1) := by decide +kernel
theorem dX11_marks_6 : decode cX11_marks 6 = .ok (.aload_n 2, 1) := by decide +kernel
theorem dX11_marks_7 : decode cX11_marks 7 = .ok (.invokevirtual 130, 3) := by decide +kernel
theorem dX11_marks_10 : decode cX11_marks 10 = .ok (.ifCond .eq 10, 3) := by decide +kernel
theorem dX11_marks_13 : decode cX11_marks 13 = .ok (.aload_n 2, 1) := by decide +kernel
theorem dX11_marks_14 : decode cX11_marks 14 = .ok (.invokevirtual 257, 3) := by decide +kernel
theorem dX11_marks_17 : decode cX11_marks 17 = .ok (.goto 4, 3) := by decide +kernel
theorem dX11_marks_20 : decode cX11_marks 20 = .ok (.iconst (-1), 1) := by decide +kernel
theorem dX11_marks_21 : decode cX11_marks 21 = .ok (.ireturn, 1) := by decide +kernel
theorem dX11_loss_0 : decode cX11_loss 0 = .ok (.aload_n 0, 1) := by decide +kernel
theorem dX11_loss_1 : decode cX11_loss 1 = .ok (.iload_n 1, 1) := by decide +kernel
theorem dX11_loss_2 : decode cX11_loss 2 = .ok (.invokevirtual 124, 3) := by decide +kernel
theorem dX11_loss_5 : decode cX11_loss 5 = .ok (.aload_n 0, 1) := by decide +kernel
theorem dX11_loss_6 : decode cX11_loss 6 = .ok (.getfield 12, 3) := by decide +kernel
theorem dX11_loss_9 : decode cX11_loss 9 = .ok (.getfield 63, 3) := by decide +kernel
theorem dX11_loss_12 : decode cX11_loss 12 = .ok (.aload_n 0, 1) := by decide +kernel
theorem dX11_loss_13 : decode cX11_loss 13 = .ok (.getfield 12, 3) := by decide +kernel
theorem dX11_loss_16 : decode cX11_loss 16 = .ok (.getfield 63, 3) := by decide +kernel
theorem dX11_loss_19 : decode cX11_loss 19 = .ok (.getfield 202, 3) := by decide +kernel
theorem dX11_loss_22 : decode cX11_loss 22 = .ok (.invokevirtual 230, 3) := by decide +kernel
theorem dX11_loss_25 : decode cX11_loss 25 = .ok (.invokevirtual 260, 3) := by decide +kernel
theorem dX11_loss_28 : decode cX11_loss 28 = .ok (.ireturn, 1) := by decide +kernel
theorem dX11_whyNoDischarge_0 : decode cX11_whyNoDischarge 0 = .ok (.aload_n 0, 1) := by decide +kernel
theorem dX11_whyNoDischarge_1 : decode cX11_whyNoDischarge 1 = .ok (.getfield 12, 3) := by decide +kernel
theorem dX11_whyNoDischarge_4 : decode cX11_whyNoDischarge 4 = .ok (.aload_n 0, 1) := by decide +kernel
theorem dX11_whyNoDischarge_5 : decode cX11_whyNoDischarge 5 = .ok (.iload_n 1, 1) := by decide +kernel
theorem dX11_whyNoDischarge_6 : decode cX11_whyNoDischarge 6 = .ok (.invokevirtual 124, 3) := by decide +kernel
theorem dX11_whyNoDischarge_9 : decode cX11_whyNoDischarge 9 = .ok (.invokevirtual 170, 3) := by decide +kernel
theorem dX11_whyNoDischarge_12 : decode cX11_whyNoDischarge 12 = .ok (.ireturn, 1) := by decide +kernel
theorem dX11_readyTroughs_0 : decode cX11_readyTroughs 0 = .ok (.aload_n 0, 1) := by decide +kernel
theorem dX11_readyTroughs_1 : decode cX11_readyTroughs 1 = .ok (.getfield 12, 3) := by decide +kernel
theorem dX11_readyTroughs_4 : decode cX11_readyTroughs 4 = .ok (.invokevirtual 156, 3) := by decide +kernel
theorem dX11_readyTroughs_7 : decode cX11_readyTroughs 7 = .ok (.ireturn, 1) := by decide +kernel
theorem dX11_weight_0 : decode cX11_weight 0 = .ok (.aload_n 0, 1) := by decide +kernel
theorem dX11_weight_1 : decode cX11_weight 1 = .ok (.iload_n 1, 1) := by decide +kernel
theorem dX11_weight_2 : decode cX11_weight 2 = .ok (.invokevirtual 124, 3) := by decide +kernel
theorem dX11_weight_5 : decode cX11_weight 5 = .ok (.getfield 263, 3) := by decide +kernel
theorem dX11_weight_8 : decode cX11_weight 8 = .ok (.ireturn, 1) := by decide +kernel
theorem dX11_reading_0 : decode cX11_reading 0 = .ok (.aload_n 0, 1) := by decide +kernel
theorem dX11_reading_1 : decode cX11_reading 1 = .ok (.getfield 12, 3) := by decide +kernel
theorem dX11_reading_4 : decode cX11_reading 4 = .ok (.aload_n 0, 1) := by decide +kernel
theorem dX11_reading_5 : decode cX11_reading 5 = .ok (.iload_n 1, 1) := by decide +kernel
theorem dX11_reading_6 : decode cX11_reading 6 = .ok (.invokevirtual 183, 3) := by decide +kernel
theorem dX11_reading_9 : decode cX11_reading 9 = .ok (.invokevirtual 266, 3) := by decide +kernel
theorem dX11_reading_12 : decode cX11_reading 12 = .ok (.ireturn, 1) := by decide +kernel
theorem dX11_probeTrough_0 : decode cX11_probeTrough 0 = .ok (.aload_n 0, 1) := by decide +kernel
theorem dX11_probeTrough_1 : decode cX11_probeTrough 1 = .ok (.iload_n 1, 1) := by decide +kernel
theorem dX11_probeTrough_2 : decode cX11_probeTrough 2 = .ok (.invokevirtual 183, 3) := by decide +kernel
theorem dX11_probeTrough_5 : decode cX11_probeTrough 5 = .ok (.getfield 187, 3) := by decide +kernel
theorem dX11_probeTrough_8 : decode cX11_probeTrough 8 = .ok (.ireturn, 1) := by decide +kernel
theorem dX11_probeLayer_0 : decode cX11_probeLayer 0 = .ok (.aload_n 0, 1) := by decide +kernel
theorem dX11_probeLayer_1 : decode cX11_probeLayer 1 = .ok (.iload_n 1, 1) := by decide +kernel
theorem dX11_probeLayer_2 : decode cX11_probeLayer 2 = .ok (.invokevirtual 183, 3) := by decide +kernel
theorem dX11_probeLayer_5 : decode cX11_probeLayer 5 = .ok (.getfield 192, 3) := by decide +kernel
theorem dX11_probeLayer_8 : decode cX11_probeLayer 8 = .ok (.ireturn, 1) := by decide +kernel
theorem dX11_meanReading_0 : decode cX11_meanReading 0 = .ok (.aload_n 0, 1) := by decide +kernel
theorem dX11_meanReading_1 : decode cX11_meanReading 1 = .ok (.iload_n 1, 1) := by decide +kernel
theorem dX11_meanReading_2 : decode cX11_meanReading 2 = .ok (.invokevirtual 124, 3) := by decide +kernel
theorem dX11_meanReading_5 : decode cX11_meanReading 5 = .ok (.pop, 1) := by decide +kernel
theorem dX11_meanReading_6 : decode cX11_meanReading 6 = .ok (.aload_n 0, 1) := by decide +kernel
theorem dX11_meanReading_7 : decode cX11_meanReading 7 = .ok (.getfield 12, 3) := by decide +kernel
theorem dX11_meanReading_10 : decode cX11_meanReading 10 = .ok (.iload_n 1, 1) := by decide +kernel
theorem dX11_meanReading_11 : decode cX11_meanReading 11 = .ok (.invokevirtual 270, 3) := by decide +kernel
theorem dX11_meanReading_14 : decode cX11_meanReading 14 = .ok (.ireturn, 1) := by decide +kernel
theorem dX11_moistureAfter_0 : decode cX11_moistureAfter 0 = .ok (.aload_n 0, 1) := by decide +kernel
theorem dX11_moistureAfter_1 : decode cX11_moistureAfter 1 = .ok (.iload_n 1, 1) := by decide +kernel
theorem dX11_moistureAfter_2 : decode cX11_moistureAfter 2 = .ok (.invokevirtual 124, 3) := by decide +kernel
theorem dX11_moistureAfter_5 : decode cX11_moistureAfter 5 = .ok (.astore 4, 2) := by decide +kernel
theorem dX11_moistureAfter_7 : decode cX11_moistureAfter 7 = .ok (.iload_n 2, 1) := by decide +kernel
theorem dX11_moistureAfter_8 : decode cX11_moistureAfter 8 = .ok (.iconst 0, 1) := by decide +kernel
theorem dX11_moistureAfter_9 : decode cX11_moistureAfter 9 = .ok (.iconst 1, 1) := by decide +kernel
theorem dX11_moistureAfter_10 : decode cX11_moistureAfter 10 = .ok (.invokestatic 96, 3) := by decide +kernel
theorem dX11_moistureAfter_13 : decode cX11_moistureAfter 13 = .ok (.iload_n 3, 1) := by decide +kernel
theorem dX11_moistureAfter_14 : decode cX11_moistureAfter 14 = .ok (.iconst 0, 1) := by decide +kernel
theorem dX11_moistureAfter_15 : decode cX11_moistureAfter 15 = .ok (.sipush 200, 3) := by decide +kernel
theorem dX11_moistureAfter_18 : decode cX11_moistureAfter 18 = .ok (.invokestatic 96, 3) := by decide +kernel
theorem dX11_moistureAfter_21 : decode cX11_moistureAfter 21 = .ok (.aload 4, 2) := by decide +kernel
theorem dX11_moistureAfter_23 : decode cX11_moistureAfter 23 = .ok (.invokevirtual 130, 3) := by decide +kernel
theorem dX11_moistureAfter_26 : decode cX11_moistureAfter 26 = .ok (.ifCond .ne 5, 3) := by decide +kernel
theorem dX11_moistureAfter_29 : decode cX11_moistureAfter 29 = .ok (.iconst (-1), 1) := by decide +kernel
theorem dX11_moistureAfter_30 : decode cX11_moistureAfter 30 = .ok (.ireturn, 1) := by decide +kernel
theorem dX11_moistureAfter_31 : decode cX11_moistureAfter 31 = .ok (.aload_n 0, 1) := by decide +kernel
theorem dX11_moistureAfter_32 : decode cX11_moistureAfter 32 = .ok (.getfield 43, 3) := by decide +kernel
theorem dX11_moistureAfter_35 : decode cX11_moistureAfter 35 = .ok (.aload 4, 2) := by decide +kernel
theorem dX11_moistureAfter_37 : decode cX11_moistureAfter 37 = .ok (.invokevirtual 273, 3) := by decide +kernel
theorem dX11_moistureAfter_40 : decode cX11_moistureAfter 40 = .ok (.aload_n 0, 1) := by decide +kernel
theorem dX11_moistureAfter_41 : decode cX11_moistureAfter 41 = .ok (.iload_n 3, 1) := by decide +kernel
theorem dX11_moistureAfter_42 : decode cX11_moistureAfter 42 = .ok (.invokevirtual 276, 3) := by decide +kernel
theorem dX11_moistureAfter_45 : decode cX11_moistureAfter 45 = .ok (.aload_n 0, 1) := by decide +kernel
theorem dX11_moistureAfter_46 : decode cX11_moistureAfter 46 = .ok (.getfield 43, 3) := by decide +kernel
theorem dX11_moistureAfter_49 : decode cX11_moistureAfter 49 = .ok (.iload_n 2, 1) := by decide +kernel
theorem dX11_moistureAfter_50 : decode cX11_moistureAfter 50 = .ok (.invokevirtual 245, 3) := by decide +kernel
theorem dX11_moistureAfter_53 : decode cX11_moistureAfter 53 = .ok (.ireturn, 1) := by decide +kernel
theorem dX11_hoursToReady_0 : decode cX11_hoursToReady 0 = .ok (.aload_n 0, 1) := by decide +kernel
theorem dX11_hoursToReady_1 : decode cX11_hoursToReady 1 = .ok (.iload_n 1, 1) := by decide +kernel
theorem dX11_hoursToReady_2 : decode cX11_hoursToReady 2 = .ok (.invokevirtual 124, 3) := by decide +kernel
theorem dX11_hoursToReady_5 : decode cX11_hoursToReady 5 = .ok (.astore_n 2, 1) := by decide +kernel
theorem dX11_hoursToReady_6 : decode cX11_hoursToReady 6 = .ok (.aload_n 2, 1) := by decide +kernel
theorem dX11_hoursToReady_7 : decode cX11_hoursToReady 7 = .ok (.invokevirtual 130, 3) := by decide +kernel
theorem dX11_hoursToReady_10 : decode cX11_hoursToReady 10 = .ok (.ifCond .ne 5, 3) := by decide +kernel
theorem dX11_hoursToReady_13 : decode cX11_hoursToReady 13 = .ok (.iconst (-1), 1) := by decide +kernel
theorem dX11_hoursToReady_14 : decode cX11_hoursToReady 14 = .ok (.ireturn, 1) := by decide +kernel
theorem dX11_hoursToReady_15 : decode cX11_hoursToReady 15 = .ok (.aload_n 0, 1) := by decide +kernel
theorem dX11_hoursToReady_16 : decode cX11_hoursToReady 16 = .ok (.getfield 43, 3) := by decide +kernel
theorem dX11_hoursToReady_19 : decode cX11_hoursToReady 19 = .ok (.aload_n 2, 1) := by decide +kernel
theorem dX11_hoursToReady_20 : decode cX11_hoursToReady 20 = .ok (.invokevirtual 273, 3) := by decide +kernel
theorem dX11_hoursToReady_23 : decode cX11_hoursToReady 23 = .ok (.iconst 0, 1) := by decide +kernel
theorem dX11_hoursToReady_24 : decode cX11_hoursToReady 24 = .ok (.istore_n 3, 1) := by decide +kernel
theorem dX11_hoursToReady_25 : decode cX11_hoursToReady 25 = .ok (.iload_n 3, 1) := by decide +kernel
theorem dX11_hoursToReady_26 : decode cX11_hoursToReady 26 = .ok (.sipush 200, 3) := by decide +kernel
theorem dX11_hoursToReady_29 : decode cX11_hoursToReady 29 = .ok (.if_icmp .gt 55, 3) := by decide +kernel
theorem dX11_hoursToReady_32 : decode cX11_hoursToReady 32 = .ok (.aload_n 0, 1) := by decide +kernel
theorem dX11_hoursToReady_33 : decode cX11_hoursToReady 33 = .ok (.getfield 12, 3) := by decide +kernel
theorem dX11_hoursToReady_36 : decode cX11_hoursToReady 36 = .ok (.aload_n 0, 1) := by decide +kernel
theorem dX11_hoursToReady_37 : decode cX11_hoursToReady 37 = .ok (.getfield 43, 3) := by decide +kernel
theorem dX11_hoursToReady_40 : decode cX11_hoursToReady 40 = .ok (.invokevirtual 279, 3) := by decide +kernel
theorem dX11_hoursToReady_43 : decode cX11_hoursToReady 43 = .ok (.ifCond .eq 5, 3) := by decide +kernel
theorem dX11_hoursToReady_46 : decode cX11_hoursToReady 46 = .ok (.iload_n 3, 1) := by decide +kernel
theorem dX11_hoursToReady_47 : decode cX11_hoursToReady 47 = .ok (.ireturn, 1) := by decide +kernel
theorem dX11_hoursToReady_48 : decode cX11_hoursToReady 48 = .ok (.aload_n 0, 1) := by decide +kernel
theorem dX11_hoursToReady_49 : decode cX11_hoursToReady 49 = .ok (.getfield 43, 3) := by decide +kernel
theorem dX11_hoursToReady_52 : decode cX11_hoursToReady 52 = .ok (.aload_n 0, 1) := by decide +kernel
theorem dX11_hoursToReady_53 : decode cX11_hoursToReady 53 = .ok (.getfield 12, 3) := by decide +kernel
theorem dX11_hoursToReady_56 : decode cX11_hoursToReady 56 = .ok (.getfield 63, 3) := by decide +kernel
theorem dX11_hoursToReady_59 : decode cX11_hoursToReady 59 = .ok (.aload_n 0, 1) := by decide +kernel
theorem dX11_hoursToReady_60 : decode cX11_hoursToReady 60 = .ok (.getfield 12, 3) := by decide +kernel
theorem dX11_hoursToReady_63 : decode cX11_hoursToReady 63 = .ok (.getfield 63, 3) := by decide +kernel
theorem dX11_hoursToReady_66 : decode cX11_hoursToReady 66 = .ok (.getfield 202, 3) := by decide +kernel
theorem dX11_hoursToReady_69 : decode cX11_hoursToReady 69 = .ok (.iload_n 3, 1) := by decide +kernel
theorem dX11_hoursToReady_70 : decode cX11_hoursToReady 70 = .ok (.iadd, 1) := by decide +kernel
theorem dX11_hoursToReady_71 : decode cX11_hoursToReady 71 = .ok (.invokevirtual 230, 3) := by decide +kernel
theorem dX11_hoursToReady_74 : decode cX11_hoursToReady 74 = .ok (.invokevirtual 283, 3) := by decide +kernel
theorem dX11_hoursToReady_77 : decode cX11_hoursToReady 77 = .ok (.pop, 1) := by decide +kernel
theorem dX11_hoursToReady_78 : decode cX11_hoursToReady 78 = .ok (.iinc 3 1, 3) := by decide +kernel
theorem dX11_hoursToReady_81 : decode cX11_hoursToReady 81 = .ok (.goto (-56), 3) := by decide +kernel
theorem dX11_hoursToReady_84 : decode cX11_hoursToReady 84 = .ok (.iconst (-1), 1) := by decide +kernel
theorem dX11_hoursToReady_85 : decode cX11_hoursToReady 85 = .ok (.ireturn, 1) := by decide +kernel
theorem dX11_hoursToDamage_0 : decode cX11_hoursToDamage 0 = .ok (.aload_n 0, 1) := by decide +kernel
theorem dX11_hoursToDamage_1 : decode cX11_hoursToDamage 1 = .ok (.iload_n 1, 1) := by decide +kernel
theorem dX11_hoursToDamage_2 : decode cX11_hoursToDamage 2 = .ok (.invokevirtual 124, 3) := by decide +kernel
theorem dX11_hoursToDamage_5 : decode cX11_hoursToDamage 5 = .ok (.astore_n 2, 1) := by decide +kernel
theorem dX11_hoursToDamage_6 : decode cX11_hoursToDamage 6 = .ok (.aload_n 2, 1) := by decide +kernel
theorem dX11_hoursToDamage_7 : decode cX11_hoursToDamage 7 = .ok (.invokevirtual 130, 3) := by decide +kernel
theorem dX11_hoursToDamage_10 : decode cX11_hoursToDamage 10 = .ok (.ifCond .ne 5, 3) := by decide +kernel
theorem dX11_hoursToDamage_13 : decode cX11_hoursToDamage 13 = .ok (.iconst (-1), 1) := by decide +kernel
theorem dX11_hoursToDamage_14 : decode cX11_hoursToDamage 14 = .ok (.ireturn, 1) := by decide +kernel
theorem dX11_hoursToDamage_15 : decode cX11_hoursToDamage 15 = .ok (.aload_n 0, 1) := by decide +kernel
theorem dX11_hoursToDamage_16 : decode cX11_hoursToDamage 16 = .ok (.getfield 43, 3) := by decide +kernel
theorem dX11_hoursToDamage_19 : decode cX11_hoursToDamage 19 = .ok (.aload_n 2, 1) := by decide +kernel
theorem dX11_hoursToDamage_20 : decode cX11_hoursToDamage 20 = .ok (.invokevirtual 273, 3) := by decide +kernel
theorem dX11_hoursToDamage_23 : decode cX11_hoursToDamage 23 = .ok (.iconst 1, 1) := by decide +kernel
theorem dX11_hoursToDamage_24 : decode cX11_hoursToDamage 24 = .ok (.istore_n 3, 1) := by decide +kernel
theorem dX11_hoursToDamage_25 : decode cX11_hoursToDamage 25 = .ok (.iload_n 3, 1) := by decide +kernel
theorem dX11_hoursToDamage_26 : decode cX11_hoursToDamage 26 = .ok (.bipush 20, 2) := by decide +kernel
theorem dX11_hoursToDamage_28 : decode cX11_hoursToDamage 28 = .ok (.if_icmp .gt 57, 3) := by decide +kernel
theorem dX11_hoursToDamage_31 : decode cX11_hoursToDamage 31 = .ok (.aload_n 0, 1) := by decide +kernel
theorem dX11_hoursToDamage_32 : decode cX11_hoursToDamage 32 = .ok (.getfield 43, 3) := by decide +kernel
theorem dX11_hoursToDamage_35 : decode cX11_hoursToDamage 35 = .ok (.aload_n 0, 1) := by decide +kernel
theorem dX11_hoursToDamage_36 : decode cX11_hoursToDamage 36 = .ok (.getfield 12, 3) := by decide +kernel
theorem dX11_hoursToDamage_39 : decode cX11_hoursToDamage 39 = .ok (.getfield 63, 3) := by decide +kernel
theorem dX11_hoursToDamage_42 : decode cX11_hoursToDamage 42 = .ok (.aload_n 0, 1) := by decide +kernel
theorem dX11_hoursToDamage_43 : decode cX11_hoursToDamage 43 = .ok (.getfield 12, 3) := by decide +kernel
theorem dX11_hoursToDamage_46 : decode cX11_hoursToDamage 46 = .ok (.getfield 63, 3) := by decide +kernel
theorem dX11_hoursToDamage_49 : decode cX11_hoursToDamage 49 = .ok (.getfield 202, 3) := by decide +kernel
theorem dX11_hoursToDamage_52 : decode cX11_hoursToDamage 52 = .ok (.iload_n 3, 1) := by decide +kernel
theorem dX11_hoursToDamage_53 : decode cX11_hoursToDamage 53 = .ok (.iadd, 1) := by decide +kernel
theorem dX11_hoursToDamage_54 : decode cX11_hoursToDamage 54 = .ok (.iconst 1, 1) := by decide +kernel
theorem dX11_hoursToDamage_55 : decode cX11_hoursToDamage 55 = .ok (.isub, 1) := by decide +kernel
theorem dX11_hoursToDamage_56 : decode cX11_hoursToDamage 56 = .ok (.invokevirtual 230, 3) := by decide +kernel
theorem dX11_hoursToDamage_59 : decode cX11_hoursToDamage 59 = .ok (.invokevirtual 283, 3) := by decide +kernel
theorem dX11_hoursToDamage_62 : decode cX11_hoursToDamage 62 = .ok (.pop, 1) := by decide +kernel
theorem dX11_hoursToDamage_63 : decode cX11_hoursToDamage 63 = .ok (.aload_n 0, 1) := by decide +kernel
theorem dX11_hoursToDamage_64 : decode cX11_hoursToDamage 64 = .ok (.getfield 43, 3) := by decide +kernel
theorem dX11_hoursToDamage_67 : decode cX11_hoursToDamage 67 = .ok (.getfield 254, 3) := by decide +kernel
theorem dX11_hoursToDamage_70 : decode cX11_hoursToDamage 70 = .ok (.aload_n 2, 1) := by decide +kernel
theorem dX11_hoursToDamage_71 : decode cX11_hoursToDamage 71 = .ok (.getfield 254, 3) := by decide +kernel
theorem dX11_hoursToDamage_74 : decode cX11_hoursToDamage 74 = .ok (.if_icmp .le 5, 3) := by decide +kernel
theorem dX11_hoursToDamage_77 : decode cX11_hoursToDamage 77 = .ok (.iload_n 3, 1) := by decide +kernel
theorem dX11_hoursToDamage_78 : decode cX11_hoursToDamage 78 = .ok (.ireturn, 1) := by decide +kernel
theorem dX11_hoursToDamage_79 : decode cX11_hoursToDamage 79 = .ok (.iinc 3 1, 3) := by decide +kernel
theorem dX11_hoursToDamage_82 : decode cX11_hoursToDamage 82 = .ok (.goto (-57), 3) := by decide +kernel
theorem dX11_hoursToDamage_85 : decode cX11_hoursToDamage 85 = .ok (.iconst (-1), 1) := by decide +kernel
theorem dX11_hoursToDamage_86 : decode cX11_hoursToDamage 86 = .ok (.ireturn, 1) := by decide +kernel
theorem dX11_bestReversal_0 : decode cX11_bestReversal 0 = .ok (.aload_n 0, 1) := by decide +kernel
theorem dX11_bestReversal_1 : decode cX11_bestReversal 1 = .ok (.iload_n 1, 1) := by decide +kernel
theorem dX11_bestReversal_2 : decode cX11_bestReversal 2 = .ok (.invokevirtual 124, 3) := by decide +kernel
theorem dX11_bestReversal_5 : decode cX11_bestReversal 5 = .ok (.astore_n 3, 1) := by decide +kernel
theorem dX11_bestReversal_6 : decode cX11_bestReversal 6 = .ok (.iload_n 2, 1) := by decide +kernel
theorem dX11_bestReversal_7 : decode cX11_bestReversal 7 = .ok (.iconst 1, 1) := by decide +kernel
theorem dX11_bestReversal_8 : decode cX11_bestReversal 8 = .ok (.bipush 100, 2) := by decide +kernel
theorem dX11_bestReversal_10 : decode cX11_bestReversal 10 = .ok (.invokestatic 96, 3) := by decide +kernel
theorem dX11_bestReversal_13 : decode cX11_bestReversal 13 = .ok (.aload_n 3, 1) := by decide +kernel
theorem dX11_bestReversal_14 : decode cX11_bestReversal 14 = .ok (.invokevirtual 130, 3) := by decide +kernel
theorem dX11_bestReversal_17 : decode cX11_bestReversal 17 = .ok (.ifCond .eq 12, 3) := by decide +kernel
theorem dX11_bestReversal_20 : decode cX11_bestReversal 20 = .ok (.aload_n 0, 1) := by decide +kernel
theorem dX11_bestReversal_21 : decode cX11_bestReversal 21 = .ok (.aload_n 3, 1) := by decide +kernel
theorem dX11_bestReversal_22 : decode cX11_bestReversal 22 = .ok (.iload_n 2, 1) := by decide +kernel
theorem dX11_bestReversal_23 : decode cX11_bestReversal 23 = .ok (.invokevirtual 286, 3) := by decide +kernel
theorem dX11_bestReversal_26 : decode cX11_bestReversal 26 = .ok (.goto 4, 3) := by decide +kernel
theorem dX11_bestReversal_29 : decode cX11_bestReversal 29 = .ok (.iconst (-1), 1) := by decide +kernel
theorem dX11_bestReversal_30 : decode cX11_bestReversal 30 = .ok (.ireturn, 1) := by decide +kernel
theorem dX11_slowestSpeed_0 : decode cX11_slowestSpeed 0 = .ok (.aload_n 0, 1) := by decide +kernel
theorem dX11_slowestSpeed_1 : decode cX11_slowestSpeed 1 = .ok (.iload_n 1, 1) := by decide +kernel
theorem dX11_slowestSpeed_2 : decode cX11_slowestSpeed 2 = .ok (.invokevirtual 124, 3) := by decide +kernel
theorem dX11_slowestSpeed_5 : decode cX11_slowestSpeed 5 = .ok (.astore_n 3, 1) := by decide +kernel
theorem dX11_slowestSpeed_6 : decode cX11_slowestSpeed 6 = .ok (.iload_n 2, 1) := by decide +kernel
theorem dX11_slowestSpeed_7 : decode cX11_slowestSpeed 7 = .ok (.iconst 0, 1) := by decide +kernel
theorem dX11_slowestSpeed_8 : decode cX11_slowestSpeed 8 = .ok (.sipush 200, 3) := by decide +kernel
theorem dX11_slowestSpeed_11 : decode cX11_slowestSpeed 11 = .ok (.invokestatic 96, 3) := by decide +kernel
theorem dX11_slowestSpeed_14 : decode cX11_slowestSpeed 14 = .ok (.aload_n 3, 1) := by decide +kernel
theorem dX11_slowestSpeed_15 : decode cX11_slowestSpeed 15 = .ok (.invokevirtual 130, 3) := by decide +kernel
theorem dX11_slowestSpeed_18 : decode cX11_slowestSpeed 18 = .ok (.ifCond .ne 5, 3) := by decide +kernel
theorem dX11_slowestSpeed_21 : decode cX11_slowestSpeed 21 = .ok (.iconst (-1), 1) := by decide +kernel
theorem dX11_slowestSpeed_22 : decode cX11_slowestSpeed 22 = .ok (.ireturn, 1) := by decide +kernel
theorem dX11_slowestSpeed_23 : decode cX11_slowestSpeed 23 = .ok (.iconst 0, 1) := by decide +kernel
theorem dX11_slowestSpeed_24 : decode cX11_slowestSpeed 24 = .ok (.istore 4, 2) := by decide +kernel
theorem dX11_slowestSpeed_26 : decode cX11_slowestSpeed 26 = .ok (.iload 4, 2) := by decide +kernel
theorem dX11_slowestSpeed_28 : decode cX11_slowestSpeed 28 = .ok (.iconst 5, 1) := by decide +kernel
theorem dX11_slowestSpeed_29 : decode cX11_slowestSpeed 29 = .ok (.if_icmp .gt 48, 3) := by decide +kernel
theorem dX11_slowestSpeed_32 : decode cX11_slowestSpeed 32 = .ok (.aload_n 0, 1) := by decide +kernel
theorem dX11_slowestSpeed_33 : decode cX11_slowestSpeed 33 = .ok (.getfield 43, 3) := by decide +kernel
theorem dX11_slowestSpeed_36 : decode cX11_slowestSpeed 36 = .ok (.aload_n 3, 1) := by decide +kernel
theorem dX11_slowestSpeed_37 : decode cX11_slowestSpeed 37 = .ok (.invokevirtual 273, 3) := by decide +kernel
theorem dX11_slowestSpeed_40 : decode cX11_slowestSpeed 40 = .ok (.aload_n 0, 1) := by decide +kernel
theorem dX11_slowestSpeed_41 : decode cX11_slowestSpeed 41 = .ok (.getfield 43, 3) := by decide +kernel
theorem dX11_slowestSpeed_44 : decode cX11_slowestSpeed 44 = .ok (.iload 4, 2) := by decide +kernel
theorem dX11_slowestSpeed_46 : decode cX11_slowestSpeed 46 = .ok (.putfield 59, 3) := by decide +kernel
theorem dX11_slowestSpeed_49 : decode cX11_slowestSpeed 49 = .ok (.aload_n 0, 1) := by decide +kernel
theorem dX11_slowestSpeed_50 : decode cX11_slowestSpeed 50 = .ok (.iload_n 2, 1) := by decide +kernel
theorem dX11_slowestSpeed_51 : decode cX11_slowestSpeed 51 = .ok (.invokevirtual 276, 3) := by decide +kernel
theorem dX11_slowestSpeed_54 : decode cX11_slowestSpeed 54 = .ok (.aload_n 0, 1) := by decide +kernel
theorem dX11_slowestSpeed_55 : decode cX11_slowestSpeed 55 = .ok (.getfield 12, 3) := by decide +kernel
theorem dX11_slowestSpeed_58 : decode cX11_slowestSpeed 58 = .ok (.aload_n 0, 1) := by decide +kernel
theorem dX11_slowestSpeed_59 : decode cX11_slowestSpeed 59 = .ok (.getfield 43, 3) := by decide +kernel
theorem dX11_slowestSpeed_62 : decode cX11_slowestSpeed 62 = .ok (.invokevirtual 279, 3) := by decide +kernel
theorem dX11_slowestSpeed_65 : decode cX11_slowestSpeed 65 = .ok (.ifCond .eq 6, 3) := by decide +kernel
theorem dX11_slowestSpeed_68 : decode cX11_slowestSpeed 68 = .ok (.iload 4, 2) := by decide +kernel
theorem dX11_slowestSpeed_70 : decode cX11_slowestSpeed 70 = .ok (.ireturn, 1) := by decide +kernel
theorem dX11_slowestSpeed_71 : decode cX11_slowestSpeed 71 = .ok (.iinc 4 1, 3) := by decide +kernel
theorem dX11_slowestSpeed_74 : decode cX11_slowestSpeed 74 = .ok (.goto (-48), 3) := by decide +kernel
theorem dX11_slowestSpeed_77 : decode cX11_slowestSpeed 77 = .ok (.iconst (-1), 1) := by decide +kernel
theorem dX11_slowestSpeed_78 : decode cX11_slowestSpeed 78 = .ok (.ireturn, 1) := by decide +kernel
theorem dX11_dischargedKilograms_0 : decode cX11_dischargedKilograms 0 = .ok (.aload_n 0, 1) := by decide +kernel
theorem dX11_dischargedKilograms_1 : decode cX11_dischargedKilograms 1 = .ok (.getfield 12, 3) := by decide +kernel
theorem dX11_dischargedKilograms_4 : decode cX11_dischargedKilograms 4 = .ok (.getfield 290, 3) := by decide +kernel
theorem dX11_dischargedKilograms_7 : decode cX11_dischargedKilograms 7 = .ok (.ireturn, 1) := by decide +kernel
theorem dX11_discardedKilograms_0 : decode cX11_discardedKilograms 0 = .ok (.aload_n 0, 1) := by decide +kernel
theorem dX11_discardedKilograms_1 : decode cX11_discardedKilograms 1 = .ok (.getfield 12, 3) := by decide +kernel
theorem dX11_discardedKilograms_4 : decode cX11_discardedKilograms 4 = .ok (.getfield 293, 3) := by decide +kernel
theorem dX11_discardedKilograms_7 : decode cX11_discardedKilograms 7 = .ok (.ireturn, 1) := by decide +kernel
theorem dX11_totalWorth_0 : decode cX11_totalWorth 0 = .ok (.aload_n 0, 1) := by decide +kernel
theorem dX11_totalWorth_1 : decode cX11_totalWorth 1 = .ok (.getfield 12, 3) := by decide +kernel
theorem dX11_totalWorth_4 : decode cX11_totalWorth 4 = .ok (.getfield 296, 3) := by decide +kernel
theorem dX11_totalWorth_7 : decode cX11_totalWorth 7 = .ok (.ireturn, 1) := by decide +kernel
theorem dX11_lostWater_0 : decode cX11_lostWater 0 = .ok (.aload_n 0, 1) := by decide +kernel
theorem dX11_lostWater_1 : decode cX11_lostWater 1 = .ok (.getfield 12, 3) := by decide +kernel
theorem dX11_lostWater_4 : decode cX11_lostWater 4 = .ok (.getfield 299, 3) := by decide +kernel
theorem dX11_lostWater_7 : decode cX11_lostWater 7 = .ok (.ireturn, 1) := by decide +kernel
theorem dX11_meanMoisture_0 : decode cX11_meanMoisture 0 = .ok (.iconst 2, 1) := by decide +kernel
theorem dX11_meanMoisture_1 : decode cX11_meanMoisture 1 = .ok (.aload_n 0, 1) := by decide +kernel
theorem dX11_meanMoisture_2 : decode cX11_meanMoisture 2 = .ok (.getfield 12, 3) := by decide +kernel
theorem dX11_meanMoisture_5 : decode cX11_meanMoisture 5 = .ok (.invokevirtual 302, 3) := by decide +kernel
theorem dX11_meanMoisture_8 : decode cX11_meanMoisture 8 = .ok (.imul, 1) := by decide +kernel
theorem dX11_meanMoisture_9 : decode cX11_meanMoisture 9 = .ok (.istore_n 1, 1) := by decide +kernel
theorem dX11_meanMoisture_10 : decode cX11_meanMoisture 10 = .ok (.iload_n 1, 1) := by decide +kernel
theorem dX11_meanMoisture_11 : decode cX11_meanMoisture 11 = .ok (.ifCond .ne 7, 3) := by decide +kernel
theorem dX11_meanMoisture_14 : decode cX11_meanMoisture 14 = .ok (.dconst 0, 1) := by decide +kernel
theorem dX11_meanMoisture_15 : decode cX11_meanMoisture 15 = .ok (.goto 14, 3) := by decide +kernel
theorem dX11_meanMoisture_18 : decode cX11_meanMoisture 18 = .ok (.aload_n 0, 1) := by decide +kernel
theorem dX11_meanMoisture_19 : decode cX11_meanMoisture 19 = .ok (.getfield 12, 3) := by decide +kernel
theorem dX11_meanMoisture_22 : decode cX11_meanMoisture 22 = .ok (.invokevirtual 305, 3) := by decide +kernel
theorem dX11_meanMoisture_25 : decode cX11_meanMoisture 25 = .ok (.i2d, 1) := by decide +kernel
theorem dX11_meanMoisture_26 : decode cX11_meanMoisture 26 = .ok (.iload_n 1, 1) := by decide +kernel
theorem dX11_meanMoisture_27 : decode cX11_meanMoisture 27 = .ok (.i2d, 1) := by decide +kernel
theorem dX11_meanMoisture_28 : decode cX11_meanMoisture 28 = .ok (.ddiv, 1) := by decide +kernel
theorem dX11_meanMoisture_29 : decode cX11_meanMoisture 29 = .ok (.dreturn, 1) := by decide +kernel
theorem dX11_readyShare_0 : decode cX11_readyShare 0 = .ok (.aload_n 0, 1) := by decide +kernel
theorem dX11_readyShare_1 : decode cX11_readyShare 1 = .ok (.getfield 12, 3) := by decide +kernel
theorem dX11_readyShare_4 : decode cX11_readyShare 4 = .ok (.invokevirtual 302, 3) := by decide +kernel
theorem dX11_readyShare_7 : decode cX11_readyShare 7 = .ok (.istore_n 1, 1) := by decide +kernel
theorem dX11_readyShare_8 : decode cX11_readyShare 8 = .ok (.iload_n 1, 1) := by decide +kernel
theorem dX11_readyShare_9 : decode cX11_readyShare 9 = .ok (.ifCond .ne 7, 3) := by decide +kernel
theorem dX11_readyShare_12 : decode cX11_readyShare 12 = .ok (.fconst 0, 1) := by decide +kernel
theorem dX11_readyShare_13 : decode cX11_readyShare 13 = .ok (.goto 17, 3) := by decide +kernel
theorem dX11_readyShare_16 : decode cX11_readyShare 16 = .ok (.aload_n 0, 1) := by decide +kernel
theorem dX11_readyShare_17 : decode cX11_readyShare 17 = .ok (.getfield 12, 3) := by decide +kernel
theorem dX11_readyShare_20 : decode cX11_readyShare 20 = .ok (.invokevirtual 156, 3) := by decide +kernel
theorem dX11_readyShare_23 : decode cX11_readyShare 23 = .ok (.invokestatic 159, 3) := by decide +kernel
theorem dX11_readyShare_26 : decode cX11_readyShare 26 = .ok (.i2f, 1) := by decide +kernel
theorem dX11_readyShare_27 : decode cX11_readyShare 27 = .ok (.iload_n 1, 1) := by decide +kernel
theorem dX11_readyShare_28 : decode cX11_readyShare 28 = .ok (.i2f, 1) := by decide +kernel
theorem dX11_readyShare_29 : decode cX11_readyShare 29 = .ok (.fdiv, 1) := by decide +kernel
theorem dX11_readyShare_30 : decode cX11_readyShare 30 = .ok (.freturn, 1) := by decide +kernel
theorem dX11_violations_0 : decode cX11_violations 0 = .ok (.aload_n 0, 1) := by decide +kernel
theorem dX11_violations_1 : decode cX11_violations 1 = .ok (.getfield 12, 3) := by decide +kernel
theorem dX11_violations_4 : decode cX11_violations 4 = .ok (.invokevirtual 308, 3) := by decide +kernel
theorem dX11_violations_7 : decode cX11_violations 7 = .ok (.ireturn, 1) := by decide +kernel
theorem dX11_writeTroughs_0 : decode cX11_writeTroughs 0 = .ok (.aload_n 0, 1) := by decide +kernel
theorem dX11_writeTroughs_1 : decode cX11_writeTroughs 1 = .ok (.getfield 36, 3) := by decide +kernel
theorem dX11_writeTroughs_4 : decode cX11_writeTroughs 4 = .ok (.aload_n 0, 1) := by decide +kernel
theorem dX11_writeTroughs_5 : decode cX11_writeTroughs 5 = .ok (.getfield 12, 3) := by decide +kernel
theorem dX11_writeTroughs_8 : decode cX11_writeTroughs 8 = .ok (.invokevirtual 311, 3) := by decide +kernel
theorem dX11_writeTroughs_11 : decode cX11_writeTroughs 11 = .ok (.aload_n 0, 1) := by decide +kernel
theorem dX11_writeTroughs_12 : decode cX11_writeTroughs 12 = .ok (.getfield 36, 3) := by decide +kernel
theorem dX11_writeTroughs_15 : decode cX11_writeTroughs 15 = .ok (.getfield 314, 3) := by decide +kernel
theorem dX11_writeTroughs_18 : decode cX11_writeTroughs 18 = .ok (.ireturn, 1) := by decide +kernel
theorem dX11_reportByte_0 : decode cX11_reportByte 0 = .ok (.aload_n 0, 1) := by decide +kernel
theorem dX11_reportByte_1 : decode cX11_reportByte 1 = .ok (.getfield 36, 3) := by decide +kernel
theorem dX11_reportByte_4 : decode cX11_reportByte 4 = .ok (.iload_n 1, 1) := by decide +kernel
theorem dX11_reportByte_5 : decode cX11_reportByte 5 = .ok (.invokevirtual 315, 3) := by decide +kernel
theorem dX11_reportByte_8 : decode cX11_reportByte 8 = .ok (.ireturn, 1) := by decide +kernel
theorem dX11_existingTrough_0 : decode cX11_existingTrough 0 = .ok (.aload_n 0, 1) := by decide +kernel
theorem dX11_existingTrough_1 : decode cX11_existingTrough 1 = .ok (.getfield 12, 3) := by decide +kernel
theorem dX11_existingTrough_4 : decode cX11_existingTrough 4 = .ok (.iload_n 1, 1) := by decide +kernel
theorem dX11_existingTrough_5 : decode cX11_existingTrough 5 = .ok (.invokevirtual 318, 3) := by decide +kernel
theorem dX11_existingTrough_8 : decode cX11_existingTrough 8 = .ok (.ifCond .ne 14, 3) := by decide +kernel
theorem dX11_existingTrough_11 : decode cX11_existingTrough 11 = .ok (.new 321, 3) := by decide +kernel
theorem dX11_existingTrough_14 : decode cX11_existingTrough 14 = .ok (.dup, 1) := by decide +kernel
theorem dX11_existingTrough_15 : decode cX11_existingTrough 15 = .ok (.ldc_w 323, 3) := by decide +kernel
theorem dX11_existingTrough_18 : decode cX11_existingTrough 18 = .ok (.invokespecial 325, 3) := by decide +kernel
theorem dX11_existingTrough_21 : decode cX11_existingTrough 21 = .ok (.athrow, 1) := by decide +kernel
theorem dX11_existingTrough_22 : decode cX11_existingTrough 22 = .ok (.aload_n 0, 1) := by decide +kernel
theorem dX11_existingTrough_23 : decode cX11_existingTrough 23 = .ok (.getfield 12, 3) := by decide +kernel
theorem dX11_existingTrough_26 : decode cX11_existingTrough 26 = .ok (.iload_n 1, 1) := by decide +kernel
theorem dX11_existingTrough_27 : decode cX11_existingTrough 27 = .ok (.invokevirtual 51, 3) := by decide +kernel
theorem dX11_existingTrough_30 : decode cX11_existingTrough 30 = .ok (.areturn, 1) := by decide +kernel
theorem dX11_existingProbe_0 : decode cX11_existingProbe 0 = .ok (.aload_n 0, 1) := by decide +kernel
theorem dX11_existingProbe_1 : decode cX11_existingProbe 1 = .ok (.getfield 12, 3) := by decide +kernel
theorem dX11_existingProbe_4 : decode cX11_existingProbe 4 = .ok (.iload_n 1, 1) := by decide +kernel
theorem dX11_existingProbe_5 : decode cX11_existingProbe 5 = .ok (.invokevirtual 326, 3) := by decide +kernel
theorem dX11_existingProbe_8 : decode cX11_existingProbe 8 = .ok (.ifCond .ne 14, 3) := by decide +kernel
theorem dX11_existingProbe_11 : decode cX11_existingProbe 11 = .ok (.new 321, 3) := by decide +kernel
theorem dX11_existingProbe_14 : decode cX11_existingProbe 14 = .ok (.dup, 1) := by decide +kernel
theorem dX11_existingProbe_15 : decode cX11_existingProbe 15 = .ok (.ldc_w 329, 3) := by decide +kernel
theorem dX11_existingProbe_18 : decode cX11_existingProbe 18 = .ok (.invokespecial 325, 3) := by decide +kernel
theorem dX11_existingProbe_21 : decode cX11_existingProbe 21 = .ok (.athrow, 1) := by decide +kernel
theorem dX11_existingProbe_22 : decode cX11_existingProbe 22 = .ok (.aload_n 0, 1) := by decide +kernel
theorem dX11_existingProbe_23 : decode cX11_existingProbe 23 = .ok (.getfield 12, 3) := by decide +kernel
theorem dX11_existingProbe_26 : decode cX11_existingProbe 26 = .ok (.iload_n 1, 1) := by decide +kernel
theorem dX11_existingProbe_27 : decode cX11_existingProbe 27 = .ok (.invokevirtual 331, 3) := by decide +kernel
theorem dX11_existingProbe_30 : decode cX11_existingProbe 30 = .ok (.areturn, 1) := by decide +kernel
theorem dX11_requireRange_0 : decode cX11_requireRange 0 = .ok (.iload_n 0, 1) := by decide +kernel
theorem dX11_requireRange_1 : decode cX11_requireRange 1 = .ok (.iload_n 1, 1) := by decide +kernel
theorem dX11_requireRange_2 : decode cX11_requireRange 2 = .ok (.if_icmp .lt 8, 3) := by decide +kernel
theorem dX11_requireRange_5 : decode cX11_requireRange 5 = .ok (.iload_n 0, 1) := by decide +kernel
theorem dX11_requireRange_6 : decode cX11_requireRange 6 = .ok (.iload_n 2, 1) := by decide +kernel
theorem dX11_requireRange_7 : decode cX11_requireRange 7 = .ok (.if_icmp .le 14, 3) := by decide +kernel
theorem dX11_requireRange_10 : decode cX11_requireRange 10 = .ok (.new 334, 3) := by decide +kernel
theorem dX11_requireRange_13 : decode cX11_requireRange 13 = .ok (.dup, 1) := by decide +kernel
theorem dX11_requireRange_14 : decode cX11_requireRange 14 = .ok (.ldc_w 336, 3) := by decide +kernel
theorem dX11_requireRange_17 : decode cX11_requireRange 17 = .ok (.invokespecial 338, 3) := by decide +kernel
theorem dX11_requireRange_20 : decode cX11_requireRange 20 = .ok (.athrow, 1) := by decide +kernel
theorem dX11_requireRange_21 : decode cX11_requireRange 21 = .ok (.return_, 1) := by decide +kernel
theorem dX11_refuseIf_0 : decode cX11_refuseIf 0 = .ok (.iload_n 0, 1) := by decide +kernel
theorem dX11_refuseIf_1 : decode cX11_refuseIf 1 = .ok (.ifCond .eq 14, 3) := by decide +kernel
theorem dX11_refuseIf_4 : decode cX11_refuseIf 4 = .ok (.new 339, 3) := by decide +kernel
theorem dX11_refuseIf_7 : decode cX11_refuseIf 7 = .ok (.dup, 1) := by decide +kernel
theorem dX11_refuseIf_8 : decode cX11_refuseIf 8 = .ok (.ldc_w 341, 3) := by decide +kernel
theorem dX11_refuseIf_11 : decode cX11_refuseIf 11 = .ok (.invokespecial 343, 3) := by decide +kernel
theorem dX11_refuseIf_14 : decode cX11_refuseIf 14 = .ok (.athrow, 1) := by decide +kernel
theorem dX11_refuseIf_15 : decode cX11_refuseIf 15 = .ok (.return_, 1) := by decide +kernel
theorem dX11_letTrialPass_0 : decode cX11_letTrialPass 0 = .ok (.iconst 0, 1) := by decide +kernel
theorem dX11_letTrialPass_1 : decode cX11_letTrialPass 1 = .ok (.istore_n 2, 1) := by decide +kernel
theorem dX11_letTrialPass_2 : decode cX11_letTrialPass 2 = .ok (.iload_n 2, 1) := by decide +kernel
theorem dX11_letTrialPass_3 : decode cX11_letTrialPass 3 = .ok (.iload_n 1, 1) := by decide +kernel
theorem dX11_letTrialPass_4 : decode cX11_letTrialPass 4 = .ok (.if_icmp .ge 39, 3) := by decide +kernel
theorem dX11_letTrialPass_7 : decode cX11_letTrialPass 7 = .ok (.aload_n 0, 1) := by decide +kernel
theorem dX11_letTrialPass_8 : decode cX11_letTrialPass 8 = .ok (.getfield 43, 3) := by decide +kernel
theorem dX11_letTrialPass_11 : decode cX11_letTrialPass 11 = .ok (.aload_n 0, 1) := by decide +kernel
theorem dX11_letTrialPass_12 : decode cX11_letTrialPass 12 = .ok (.getfield 12, 3) := by decide +kernel
theorem dX11_letTrialPass_15 : decode cX11_letTrialPass 15 = .ok (.getfield 63, 3) := by decide +kernel
theorem dX11_letTrialPass_18 : decode cX11_letTrialPass 18 = .ok (.aload_n 0, 1) := by decide +kernel
theorem dX11_letTrialPass_19 : decode cX11_letTrialPass 19 = .ok (.getfield 12, 3) := by decide +kernel
theorem dX11_letTrialPass_22 : decode cX11_letTrialPass 22 = .ok (.getfield 63, 3) := by decide +kernel
theorem dX11_letTrialPass_25 : decode cX11_letTrialPass 25 = .ok (.getfield 202, 3) := by decide +kernel
theorem dX11_letTrialPass_28 : decode cX11_letTrialPass 28 = .ok (.iload_n 2, 1) := by decide +kernel
theorem dX11_letTrialPass_29 : decode cX11_letTrialPass 29 = .ok (.iadd, 1) := by decide +kernel
theorem dX11_letTrialPass_30 : decode cX11_letTrialPass 30 = .ok (.invokevirtual 230, 3) := by decide +kernel
theorem dX11_letTrialPass_33 : decode cX11_letTrialPass 33 = .ok (.invokevirtual 283, 3) := by decide +kernel
theorem dX11_letTrialPass_36 : decode cX11_letTrialPass 36 = .ok (.pop, 1) := by decide +kernel
theorem dX11_letTrialPass_37 : decode cX11_letTrialPass 37 = .ok (.iinc 2 1, 3) := by decide +kernel
theorem dX11_letTrialPass_40 : decode cX11_letTrialPass 40 = .ok (.goto (-38), 3) := by decide +kernel
theorem dX11_letTrialPass_43 : decode cX11_letTrialPass 43 = .ok (.return_, 1) := by decide +kernel
theorem dX11_bestHourToReverse_0 : decode cX11_bestHourToReverse 0 = .ok (.aload_n 1, 1) := by decide +kernel
theorem dX11_bestHourToReverse_1 : decode cX11_bestHourToReverse 1 = .ok (.getfield 80, 3) := by decide +kernel
theorem dX11_bestHourToReverse_4 : decode cX11_bestHourToReverse 4 = .ok (.ifCond .eq 10, 3) := by decide +kernel
theorem dX11_bestHourToReverse_7 : decode cX11_bestHourToReverse 7 = .ok (.aload_n 1, 1) := by decide +kernel
theorem dX11_bestHourToReverse_8 : decode cX11_bestHourToReverse 8 = .ok (.getfield 344, 3) := by decide +kernel
theorem dX11_bestHourToReverse_11 : decode cX11_bestHourToReverse 11 = .ok (.goto 7, 3) := by decide +kernel
theorem dX11_bestHourToReverse_14 : decode cX11_bestHourToReverse 14 = .ok (.aload_n 1, 1) := by decide +kernel
theorem dX11_bestHourToReverse_15 : decode cX11_bestHourToReverse 15 = .ok (.getfield 167, 3) := by decide +kernel
theorem dX11_bestHourToReverse_18 : decode cX11_bestHourToReverse 18 = .ok (.istore_n 3, 1) := by decide +kernel
theorem dX11_bestHourToReverse_19 : decode cX11_bestHourToReverse 19 = .ok (.aload_n 1, 1) := by decide +kernel
theorem dX11_bestHourToReverse_20 : decode cX11_bestHourToReverse 20 = .ok (.getfield 80, 3) := by decide +kernel
theorem dX11_bestHourToReverse_23 : decode cX11_bestHourToReverse 23 = .ok (.ifCond .eq 10, 3) := by decide +kernel
theorem dX11_bestHourToReverse_26 : decode cX11_bestHourToReverse 26 = .ok (.aload_n 1, 1) := by decide +kernel
theorem dX11_bestHourToReverse_27 : decode cX11_bestHourToReverse 27 = .ok (.getfield 167, 3) := by decide +kernel
theorem dX11_bestHourToReverse_30 : decode cX11_bestHourToReverse 30 = .ok (.goto 7, 3) := by decide +kernel
theorem dX11_bestHourToReverse_33 : decode cX11_bestHourToReverse 33 = .ok (.aload_n 1, 1) := by decide +kernel
theorem dX11_bestHourToReverse_34 : decode cX11_bestHourToReverse 34 = .ok (.getfield 344, 3) := by decide +kernel
theorem dX11_bestHourToReverse_37 : decode cX11_bestHourToReverse 37 = .ok (.istore 4, 2) := by decide +kernel
theorem dX11_bestHourToReverse_39 : decode cX11_bestHourToReverse 39 = .ok (.iconst 0, 1) := by decide +kernel
theorem dX11_bestHourToReverse_40 : decode cX11_bestHourToReverse 40 = .ok (.istore 5, 2) := by decide +kernel
theorem dX11_bestHourToReverse_42 : decode cX11_bestHourToReverse 42 = .ok (.iload 5, 2) := by decide +kernel
theorem dX11_bestHourToReverse_44 : decode cX11_bestHourToReverse 44 = .ok (.iload_n 2, 1) := by decide +kernel
theorem dX11_bestHourToReverse_45 : decode cX11_bestHourToReverse 45 = .ok (.if_icmp .ge 52, 3) := by decide +kernel
theorem dX11_bestHourToReverse_48 : decode cX11_bestHourToReverse 48 = .ok (.aload_n 1, 1) := by decide +kernel
theorem dX11_bestHourToReverse_49 : decode cX11_bestHourToReverse 49 = .ok (.aload_n 0, 1) := by decide +kernel
theorem dX11_bestHourToReverse_50 : decode cX11_bestHourToReverse 50 = .ok (.getfield 12, 3) := by decide +kernel
theorem dX11_bestHourToReverse_53 : decode cX11_bestHourToReverse 53 = .ok (.getfield 63, 3) := by decide +kernel
theorem dX11_bestHourToReverse_56 : decode cX11_bestHourToReverse 56 = .ok (.aload_n 0, 1) := by decide +kernel
theorem dX11_bestHourToReverse_57 : decode cX11_bestHourToReverse 57 = .ok (.getfield 12, 3) := by decide +kernel
theorem dX11_bestHourToReverse_60 : decode cX11_bestHourToReverse 60 = .ok (.getfield 63, 3) := by decide +kernel
theorem dX11_bestHourToReverse_63 : decode cX11_bestHourToReverse 63 = .ok (.getfield 202, 3) := by decide +kernel
theorem dX11_bestHourToReverse_66 : decode cX11_bestHourToReverse 66 = .ok (.iload 5, 2) := by decide +kernel
theorem dX11_bestHourToReverse_68 : decode cX11_bestHourToReverse 68 = .ok (.iadd, 1) := by decide +kernel
theorem dX11_bestHourToReverse_69 : decode cX11_bestHourToReverse 69 = .ok (.invokevirtual 230, 3) := by decide +kernel
theorem dX11_bestHourToReverse_72 : decode cX11_bestHourToReverse 72 = .ok (.invokevirtual 260, 3) := by decide +kernel
theorem dX11_bestHourToReverse_75 : decode cX11_bestHourToReverse 75 = .ok (.istore 6, 2) := by decide +kernel
theorem dX11_bestHourToReverse_77 : decode cX11_bestHourToReverse 77 = .ok (.iload_n 3, 1) := by decide +kernel
theorem dX11_bestHourToReverse_78 : decode cX11_bestHourToReverse 78 = .ok (.iload 6, 2) := by decide +kernel
theorem dX11_bestHourToReverse_80 : decode cX11_bestHourToReverse 80 = .ok (.iconst 2, 1) := by decide +kernel
theorem dX11_bestHourToReverse_81 : decode cX11_bestHourToReverse 81 = .ok (.idiv, 1) := by decide +kernel
theorem dX11_bestHourToReverse_82 : decode cX11_bestHourToReverse 82 = .ok (.isub, 1) := by decide +kernel
theorem dX11_bestHourToReverse_83 : decode cX11_bestHourToReverse 83 = .ok (.istore_n 3, 1) := by decide +kernel
theorem dX11_bestHourToReverse_84 : decode cX11_bestHourToReverse 84 = .ok (.iload 4, 2) := by decide +kernel
theorem dX11_bestHourToReverse_86 : decode cX11_bestHourToReverse 86 = .ok (.iload 6, 2) := by decide +kernel
theorem dX11_bestHourToReverse_88 : decode cX11_bestHourToReverse 88 = .ok (.isub, 1) := by decide +kernel
theorem dX11_bestHourToReverse_89 : decode cX11_bestHourToReverse 89 = .ok (.istore 4, 2) := by decide +kernel
theorem dX11_bestHourToReverse_91 : decode cX11_bestHourToReverse 91 = .ok (.iinc 5 1, 3) := by decide +kernel
theorem dX11_bestHourToReverse_94 : decode cX11_bestHourToReverse 94 = .ok (.goto (-52), 3) := by decide +kernel
theorem dX11_bestHourToReverse_97 : decode cX11_bestHourToReverse 97 = .ok (.iconst 0, 1) := by decide +kernel
theorem dX11_bestHourToReverse_98 : decode cX11_bestHourToReverse 98 = .ok (.istore 5, 2) := by decide +kernel
theorem dX11_bestHourToReverse_100 : decode cX11_bestHourToReverse 100 = .ok (.iload_n 3, 1) := by decide +kernel
theorem dX11_bestHourToReverse_101 : decode cX11_bestHourToReverse 101 = .ok (.invokestatic 347, 3) := by decide +kernel
theorem dX11_bestHourToReverse_104 : decode cX11_bestHourToReverse 104 = .ok (.iload 4, 2) := by decide +kernel
theorem dX11_bestHourToReverse_106 : decode cX11_bestHourToReverse 106 = .ok (.invokestatic 347, 3) := by decide +kernel
theorem dX11_bestHourToReverse_109 : decode cX11_bestHourToReverse 109 = .ok (.isub, 1) := by decide +kernel
theorem dX11_bestHourToReverse_110 : decode cX11_bestHourToReverse 110 = .ok (.invokestatic 350, 3) := by decide +kernel
theorem dX11_bestHourToReverse_113 : decode cX11_bestHourToReverse 113 = .ok (.istore 6, 2) := by decide +kernel
theorem dX11_bestHourToReverse_115 : decode cX11_bestHourToReverse 115 = .ok (.iconst 0, 1) := by decide +kernel
theorem dX11_bestHourToReverse_116 : decode cX11_bestHourToReverse 116 = .ok (.istore 7, 2) := by decide +kernel
theorem dX11_bestHourToReverse_118 : decode cX11_bestHourToReverse 118 = .ok (.iload 7, 2) := by decide +kernel
theorem dX11_bestHourToReverse_120 : decode cX11_bestHourToReverse 120 = .ok (.iload_n 2, 1) := by decide +kernel
theorem dX11_bestHourToReverse_121 : decode cX11_bestHourToReverse 121 = .ok (.if_icmp .ge 92, 3) := by decide +kernel
theorem dX11_bestHourToReverse_124 : decode cX11_bestHourToReverse 124 = .ok (.aload_n 1, 1) := by decide +kernel
theorem dX11_bestHourToReverse_125 : decode cX11_bestHourToReverse 125 = .ok (.aload_n 0, 1) := by decide +kernel
theorem dX11_bestHourToReverse_126 : decode cX11_bestHourToReverse 126 = .ok (.getfield 12, 3) := by decide +kernel
theorem dX11_bestHourToReverse_129 : decode cX11_bestHourToReverse 129 = .ok (.getfield 63, 3) := by decide +kernel
theorem dX11_bestHourToReverse_132 : decode cX11_bestHourToReverse 132 = .ok (.aload_n 0, 1) := by decide +kernel
theorem dX11_bestHourToReverse_133 : decode cX11_bestHourToReverse 133 = .ok (.getfield 12, 3) := by decide +kernel
theorem dX11_bestHourToReverse_136 : decode cX11_bestHourToReverse 136 = .ok (.getfield 63, 3) := by decide +kernel
theorem dX11_bestHourToReverse_139 : decode cX11_bestHourToReverse 139 = .ok (.getfield 202, 3) := by decide +kernel
theorem dX11_bestHourToReverse_142 : decode cX11_bestHourToReverse 142 = .ok (.iload 7, 2) := by decide +kernel
theorem dX11_bestHourToReverse_144 : decode cX11_bestHourToReverse 144 = .ok (.iadd, 1) := by decide +kernel
theorem dX11_bestHourToReverse_145 : decode cX11_bestHourToReverse 145 = .ok (.invokevirtual 230, 3) := by decide +kernel
theorem dX11_bestHourToReverse_148 : decode cX11_bestHourToReverse 148 = .ok (.invokevirtual 260, 3) := by decide +kernel
theorem dX11_bestHourToReverse_151 : decode cX11_bestHourToReverse 151 = .ok (.istore 8, 2) := by decide +kernel
theorem dX11_bestHourToReverse_153 : decode cX11_bestHourToReverse 153 = .ok (.iload_n 3, 1) := by decide +kernel
theorem dX11_bestHourToReverse_154 : decode cX11_bestHourToReverse 154 = .ok (.iload 8, 2) := by decide +kernel
theorem dX11_bestHourToReverse_156 : decode cX11_bestHourToReverse 156 = .ok (.iload 8, 2) := by decide +kernel
theorem dX11_bestHourToReverse_158 : decode cX11_bestHourToReverse 158 = .ok (.iconst 2, 1) := by decide +kernel
theorem dX11_bestHourToReverse_159 : decode cX11_bestHourToReverse 159 = .ok (.idiv, 1) := by decide +kernel
theorem dX11_bestHourToReverse_160 : decode cX11_bestHourToReverse 160 = .ok (.isub, 1) := by decide +kernel
theorem dX11_bestHourToReverse_161 : decode cX11_bestHourToReverse 161 = .ok (.isub, 1) := by decide +kernel
theorem dX11_bestHourToReverse_162 : decode cX11_bestHourToReverse 162 = .ok (.istore_n 3, 1) := by decide +kernel
theorem dX11_bestHourToReverse_163 : decode cX11_bestHourToReverse 163 = .ok (.iload 4, 2) := by decide +kernel
theorem dX11_bestHourToReverse_165 : decode cX11_bestHourToReverse 165 = .ok (.iload 8, 2) := by decide +kernel
theorem dX11_bestHourToReverse_167 : decode cX11_bestHourToReverse 167 = .ok (.iload 8, 2) := by decide +kernel
theorem dX11_bestHourToReverse_169 : decode cX11_bestHourToReverse 169 = .ok (.iconst 2, 1) := by decide +kernel
theorem dX11_bestHourToReverse_170 : decode cX11_bestHourToReverse 170 = .ok (.idiv, 1) := by decide +kernel
theorem dX11_bestHourToReverse_171 : decode cX11_bestHourToReverse 171 = .ok (.isub, 1) := by decide +kernel
theorem dX11_bestHourToReverse_172 : decode cX11_bestHourToReverse 172 = .ok (.iadd, 1) := by decide +kernel
theorem dX11_bestHourToReverse_173 : decode cX11_bestHourToReverse 173 = .ok (.istore 4, 2) := by decide +kernel
theorem dX11_bestHourToReverse_175 : decode cX11_bestHourToReverse 175 = .ok (.iload_n 3, 1) := by decide +kernel
theorem dX11_bestHourToReverse_176 : decode cX11_bestHourToReverse 176 = .ok (.invokestatic 347, 3) := by decide +kernel
theorem dX11_bestHourToReverse_179 : decode cX11_bestHourToReverse 179 = .ok (.iload 4, 2) := by decide +kernel
theorem dX11_bestHourToReverse_181 : decode cX11_bestHourToReverse 181 = .ok (.invokestatic 347, 3) := by decide +kernel
theorem dX11_bestHourToReverse_184 : decode cX11_bestHourToReverse 184 = .ok (.isub, 1) := by decide +kernel
theorem dX11_bestHourToReverse_185 : decode cX11_bestHourToReverse 185 = .ok (.invokestatic 350, 3) := by decide +kernel
theorem dX11_bestHourToReverse_188 : decode cX11_bestHourToReverse 188 = .ok (.istore 9, 2) := by decide +kernel
theorem dX11_bestHourToReverse_190 : decode cX11_bestHourToReverse 190 = .ok (.iload 9, 2) := by decide +kernel
theorem dX11_bestHourToReverse_192 : decode cX11_bestHourToReverse 192 = .ok (.iload 6, 2) := by decide +kernel
theorem dX11_bestHourToReverse_194 : decode cX11_bestHourToReverse 194 = .ok (.if_icmp .ge 13, 3) := by decide +kernel
theorem dX11_bestHourToReverse_197 : decode cX11_bestHourToReverse 197 = .ok (.iload 9, 2) := by decide +kernel
theorem dX11_bestHourToReverse_199 : decode cX11_bestHourToReverse 199 = .ok (.istore 6, 2) := by decide +kernel
theorem dX11_bestHourToReverse_201 : decode cX11_bestHourToReverse 201 = .ok (.iload 7, 2) := by decide +kernel
theorem dX11_bestHourToReverse_203 : decode cX11_bestHourToReverse 203 = .ok (.iconst 1, 1) := by decide +kernel
theorem dX11_bestHourToReverse_204 : decode cX11_bestHourToReverse 204 = .ok (.iadd, 1) := by decide +kernel
theorem dX11_bestHourToReverse_205 : decode cX11_bestHourToReverse 205 = .ok (.istore 5, 2) := by decide +kernel
theorem dX11_bestHourToReverse_207 : decode cX11_bestHourToReverse 207 = .ok (.iinc 7 1, 3) := by decide +kernel
theorem dX11_bestHourToReverse_210 : decode cX11_bestHourToReverse 210 = .ok (.goto (-92), 3) := by decide +kernel
theorem dX11_bestHourToReverse_213 : decode cX11_bestHourToReverse 213 = .ok (.iload 5, 2) := by decide +kernel
theorem dX11_bestHourToReverse_215 : decode cX11_bestHourToReverse 215 = .ok (.ireturn, 1) := by decide +kernel
theorem dX11_notBelowLowest_0 : decode cX11_notBelowLowest 0 = .ok (.iload_n 0, 1) := by decide +kernel
theorem dX11_notBelowLowest_1 : decode cX11_notBelowLowest 1 = .ok (.sipush 300, 3) := by decide +kernel
theorem dX11_notBelowLowest_4 : decode cX11_notBelowLowest 4 = .ok (.if_icmp .ge 9, 3) := by decide +kernel
theorem dX11_notBelowLowest_7 : decode cX11_notBelowLowest 7 = .ok (.sipush 300, 3) := by decide +kernel
theorem dX11_notBelowLowest_10 : decode cX11_notBelowLowest 10 = .ok (.goto 4, 3) := by decide +kernel
theorem dX11_notBelowLowest_13 : decode cX11_notBelowLowest 13 = .ok (.iload_n 0, 1) := by decide +kernel
theorem dX11_notBelowLowest_14 : decode cX11_notBelowLowest 14 = .ok (.ireturn, 1) := by decide +kernel
