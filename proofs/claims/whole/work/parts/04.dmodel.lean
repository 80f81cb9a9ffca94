theorem dX12_init_0 : decode cX12_init 0 = .ok (.aload_n 0, 1) := by decide +kernel
theorem dX12_init_1 : decode cX12_init 1 = .ok (.invokespecial 1, 3) := by decide +kernel
theorem dX12_init_4 : decode cX12_init 4 = .ok (.aload_n 0, 1) := by decide +kernel
theorem dX12_init_5 : decode cX12_init 5 = .ok (.bipush 107, 2) := by decide +kernel
theorem dX12_init_7 : decode cX12_init 7 = .ok (.newarray .int, 2) := by decide +kernel
theorem dX12_init_9 : decode cX12_init 9 = .ok (.putfield 7, 3) := by decide +kernel
theorem dX12_init_12 : decode cX12_init 12 = .ok (.aload_n 0, 1) := by decide +kernel
theorem dX12_init_13 : decode cX12_init 13 = .ok (.bipush 107, 2) := by decide +kernel
theorem dX12_init_15 : decode cX12_init 15 = .ok (.newarray .int, 2) := by decide +kernel
theorem dX12_init_17 : decode cX12_init 17 = .ok (.putfield 13, 3) := by decide +kernel
theorem dX12_init_20 : decode cX12_init 20 = .ok (.aload_n 0, 1) := by decide +kernel
theorem dX12_init_21 : decode cX12_init 21 = .ok (.bipush 107, 2) := by decide +kernel
theorem dX12_init_23 : decode cX12_init 23 = .ok (.newarray .int, 2) := by decide +kernel
theorem dX12_init_25 : decode cX12_init 25 = .ok (.putfield 16, 3) := by decide +kernel
theorem dX12_init_28 : decode cX12_init 28 = .ok (.aload_n 0, 1) := by decide +kernel
theorem dX12_init_29 : decode cX12_init 29 = .ok (.sipush 856, 3) := by decide +kernel
theorem dX12_init_32 : decode cX12_init 32 = .ok (.newarray .int, 2) := by decide +kernel
theorem dX12_init_34 : decode cX12_init 34 = .ok (.putfield 19, 3) := by decide +kernel
theorem dX12_init_37 : decode cX12_init 37 = .ok (.aload_n 0, 1) := by decide +kernel
theorem dX12_init_38 : decode cX12_init 38 = .ok (.bipush 107, 2) := by decide +kernel
theorem dX12_init_40 : decode cX12_init 40 = .ok (.newarray .int, 2) := by decide +kernel
theorem dX12_init_42 : decode cX12_init 42 = .ok (.putfield 22, 3) := by decide +kernel
theorem dX12_init_45 : decode cX12_init 45 = .ok (.aload_n 0, 1) := by decide +kernel
theorem dX12_init_46 : decode cX12_init 46 = .ok (.sipush 600, 3) := by decide +kernel
theorem dX12_init_49 : decode cX12_init 49 = .ok (.newarray .int, 2) := by decide +kernel
theorem dX12_init_51 : decode cX12_init 51 = .ok (.putfield 25, 3) := by decide +kernel
theorem dX12_init_54 : decode cX12_init 54 = .ok (.aload_n 0, 1) := by decide +kernel
theorem dX12_init_55 : decode cX12_init 55 = .ok (.sipush 600, 3) := by decide +kernel
theorem dX12_init_58 : decode cX12_init 58 = .ok (.newarray .int, 2) := by decide +kernel
theorem dX12_init_60 : decode cX12_init 60 = .ok (.putfield 28, 3) := by decide +kernel
theorem dX12_init_63 : decode cX12_init 63 = .ok (.aload_n 0, 1) := by decide +kernel
theorem dX12_init_64 : decode cX12_init 64 = .ok (.iconst (-1), 1) := by decide +kernel
theorem dX12_init_65 : decode cX12_init 65 = .ok (.putfield 31, 3) := by decide +kernel
theorem dX12_init_68 : decode cX12_init 68 = .ok (.aload_n 0, 1) := by decide +kernel
theorem dX12_init_69 : decode cX12_init 69 = .ok (.bipush 120, 2) := by decide +kernel
theorem dX12_init_71 : decode cX12_init 71 = .ok (.newarray .char, 2) := by decide +kernel
theorem dX12_init_73 : decode cX12_init 73 = .ok (.putfield 35, 3) := by decide +kernel
theorem dX12_init_76 : decode cX12_init 76 = .ok (.aload_n 0, 1) := by decide +kernel
theorem dX12_init_77 : decode cX12_init 77 = .ok (.iconst 3, 1) := by decide +kernel
theorem dX12_init_78 : decode cX12_init 78 = .ok (.newarray .int, 2) := by decide +kernel
theorem dX12_init_80 : decode cX12_init 80 = .ok (.putfield 39, 3) := by decide +kernel
theorem dX12_init_83 : decode cX12_init 83 = .ok (.aload_n 0, 1) := by decide +kernel
theorem dX12_init_84 : decode cX12_init 84 = .ok (.ldc 42, 2) := by decide +kernel
theorem dX12_init_86 : decode cX12_init 86 = .ok (.invokevirtual 44, 3) := by decide +kernel
theorem dX12_init_89 : decode cX12_init 89 = .ok (.aload_n 0, 1) := by decide +kernel
theorem dX12_init_90 : decode cX12_init 90 = .ok (.ldc 48, 2) := by decide +kernel
theorem dX12_init_92 : decode cX12_init 92 = .ok (.invokevirtual 44, 3) := by decide +kernel
theorem dX12_init_95 : decode cX12_init 95 = .ok (.aload_n 0, 1) := by decide +kernel
theorem dX12_init_96 : decode cX12_init 96 = .ok (.invokevirtual 50, 3) := by decide +kernel
theorem dX12_init_99 : decode cX12_init 99 = .ok (.pop, 1) := by decide +kernel
theorem dX12_init_100 : decode cX12_init 100 = .ok (.aload_n 0, 1) := by decide +kernel
theorem dX12_init_101 : decode cX12_init 101 = .ok (.iconst 0, 1) := by decide +kernel
theorem dX12_init_102 : decode cX12_init 102 = .ok (.putfield 54, 3) := by decide +kernel
theorem dX12_init_105 : decode cX12_init 105 = .ok (.return_, 1) := by decide +kernel
theorem dX12_thrown_0 : decode cX12_thrown 0 = .ok (.aload_n 0, 1) := by decide +kernel
theorem dX12_thrown_1 : decode cX12_thrown 1 = .ok (.getfield 54, 3) := by decide +kernel
theorem dX12_thrown_4 : decode cX12_thrown 4 = .ok (.ireturn, 1) := by decide +kernel
theorem dX12_in_0 : decode cX12_in 0 = .ok (.iload_n 0, 1) := by decide +kernel
theorem dX12_in_1 : decode cX12_in 1 = .ok (.iload_n 1, 1) := by decide +kernel
theorem dX12_in_2 : decode cX12_in 2 = .ok (.if_icmp .lt 12, 3) := by decide +kernel
theorem dX12_in_5 : decode cX12_in 5 = .ok (.iload_n 0, 1) := by decide +kernel
theorem dX12_in_6 : decode cX12_in 6 = .ok (.iload_n 2, 1) := by decide +kernel
theorem dX12_in_7 : decode cX12_in 7 = .ok (.if_icmp .gt 7, 3) := by decide +kernel
theorem dX12_in_10 : decode cX12_in 10 = .ok (.iconst 1, 1) := by decide +kernel
theorem dX12_in_11 : decode cX12_in 11 = .ok (.goto 4, 3) := by decide +kernel
theorem dX12_in_14 : decode cX12_in 14 = .ok (.iconst 0, 1) := by decide +kernel
theorem dX12_in_15 : decode cX12_in 15 = .ok (.ireturn, 1) := by decide +kernel
theorem dX12_abs_0 : decode cX12_abs 0 = .ok (.iload_n 0, 1) := by decide +kernel
theorem dX12_abs_1 : decode cX12_abs 1 = .ok (.ifCond .ge 8, 3) := by decide +kernel
theorem dX12_abs_4 : decode cX12_abs 4 = .ok (.iload_n 0, 1) := by decide +kernel
theorem dX12_abs_5 : decode cX12_abs 5 = .ok (.ineg, 1) := by decide +kernel
theorem dX12_abs_6 : decode cX12_abs 6 = .ok (.goto 4, 3) := by decide +kernel
theorem dX12_abs_9 : decode cX12_abs 9 = .ok (.iload_n 0, 1) := by decide +kernel
theorem dX12_abs_10 : decode cX12_abs 10 = .ok (.ireturn, 1) := by decide +kernel
theorem dX12_throwsOne_0 : decode cX12_throwsOne 0 = .ok (.aload_n 0, 1) := by decide +kernel
theorem dX12_throwsOne_1 : decode cX12_throwsOne 1 = .ok (.iload_n 1, 1) := by decide +kernel
theorem dX12_throwsOne_2 : decode cX12_throwsOne 2 = .ok (.ifCond .eq 7, 3) := by decide +kernel
theorem dX12_throwsOne_5 : decode cX12_throwsOne 5 = .ok (.iconst 1, 1) := by decide +kernel
theorem dX12_throwsOne_6 : decode cX12_throwsOne 6 = .ok (.goto 4, 3) := by decide +kernel
theorem dX12_throwsOne_9 : decode cX12_throwsOne 9 = .ok (.iconst 0, 1) := by decide +kernel
theorem dX12_throwsOne_10 : decode cX12_throwsOne 10 = .ok (.putfield 54, 3) := by decide +kernel
theorem dX12_throwsOne_13 : decode cX12_throwsOne 13 = .ok (.iload_n 1, 1) := by decide +kernel
theorem dX12_throwsOne_14 : decode cX12_throwsOne 14 = .ok (.ireturn, 1) := by decide +kernel
theorem dX12_throwsOne__0 : decode cX12_throwsOne_ 0 = .ok (.aload_n 0, 1) := by decide +kernel
theorem dX12_throwsOne__1 : decode cX12_throwsOne_ 1 = .ok (.iload_n 1, 1) := by decide +kernel
theorem dX12_throwsOne__2 : decode cX12_throwsOne_ 2 = .ok (.ifCond .eq 7, 3) := by decide +kernel
theorem dX12_throwsOne__5 : decode cX12_throwsOne_ 5 = .ok (.iconst 1, 1) := by decide +kernel
theorem dX12_throwsOne__6 : decode cX12_throwsOne_ 6 = .ok (.goto 12, 3) := by decide +kernel
theorem dX12_throwsOne__9 : decode cX12_throwsOne_ 9 = .ok (.iload_n 2, 1) := by decide +kernel
theorem dX12_throwsOne__10 : decode cX12_throwsOne_ 10 = .ok (.ifCond .eq 7, 3) := by decide +kernel
theorem dX12_throwsOne__13 : decode cX12_throwsOne_ 13 = .ok (.iconst 2, 1) := by decide +kernel
theorem dX12_throwsOne__14 : decode cX12_throwsOne_ 14 = .ok (.goto 4, 3) := by decide +kernel
theorem dX12_throwsOne__17 : decode cX12_throwsOne_ 17 = .ok (.iconst 0, 1) := by decide +kernel
theorem dX12_throwsOne__18 : decode cX12_throwsOne_ 18 = .ok (.putfield 54, 3) := by decide +kernel
theorem dX12_throwsOne__21 : decode cX12_throwsOne_ 21 = .ok (.iload_n 1, 1) := by decide +kernel
theorem dX12_throwsOne__22 : decode cX12_throwsOne_ 22 = .ok (.ifCond .ne 7, 3) := by decide +kernel
theorem dX12_throwsOne__25 : decode cX12_throwsOne_ 25 = .ok (.iload_n 2, 1) := by decide +kernel
theorem dX12_throwsOne__26 : decode cX12_throwsOne_ 26 = .ok (.ifCond .eq 7, 3) := by decide +kernel
theorem dX12_throwsOne__29 : decode cX12_throwsOne_ 29 = .ok (.iconst 1, 1) := by decide +kernel
theorem dX12_throwsOne__30 : decode cX12_throwsOne_ 30 = .ok (.goto 4, 3) := by decide +kernel
theorem dX12_throwsOne__33 : decode cX12_throwsOne_ 33 = .ok (.iconst 0, 1) := by decide +kernel
theorem dX12_throwsOne__34 : decode cX12_throwsOne_ 34 = .ok (.ireturn, 1) := by decide +kernel
theorem dX12_throwsOne___0 : decode cX12_throwsOne__ 0 = .ok (.aload_n 0, 1) := by decide +kernel
theorem dX12_throwsOne___1 : decode cX12_throwsOne__ 1 = .ok (.iload_n 1, 1) := by decide +kernel
theorem dX12_throwsOne___2 : decode cX12_throwsOne__ 2 = .ok (.ifCond .eq 7, 3) := by decide +kernel
theorem dX12_throwsOne___5 : decode cX12_throwsOne__ 5 = .ok (.iconst 1, 1) := by decide +kernel
theorem dX12_throwsOne___6 : decode cX12_throwsOne__ 6 = .ok (.goto 20, 3) := by decide +kernel
theorem dX12_throwsOne___9 : decode cX12_throwsOne__ 9 = .ok (.iload_n 2, 1) := by decide +kernel
theorem dX12_throwsOne___10 : decode cX12_throwsOne__ 10 = .ok (.ifCond .eq 7, 3) := by decide +kernel
theorem dX12_throwsOne___13 : decode cX12_throwsOne__ 13 = .ok (.iconst 2, 1) := by decide +kernel
theorem dX12_throwsOne___14 : decode cX12_throwsOne__ 14 = .ok (.goto 12, 3) := by decide +kernel
theorem dX12_throwsOne___17 : decode cX12_throwsOne__ 17 = .ok (.iload_n 3, 1) := by decide +kernel
theorem dX12_throwsOne___18 : decode cX12_throwsOne__ 18 = .ok (.ifCond .eq 7, 3) := by decide +kernel
theorem dX12_throwsOne___21 : decode cX12_throwsOne__ 21 = .ok (.iconst 3, 1) := by decide +kernel
theorem dX12_throwsOne___22 : decode cX12_throwsOne__ 22 = .ok (.goto 4, 3) := by decide +kernel
theorem dX12_throwsOne___25 : decode cX12_throwsOne__ 25 = .ok (.iconst 0, 1) := by decide +kernel
theorem dX12_throwsOne___26 : decode cX12_throwsOne__ 26 = .ok (.putfield 54, 3) := by decide +kernel
theorem dX12_throwsOne___29 : decode cX12_throwsOne__ 29 = .ok (.iload_n 1, 1) := by decide +kernel
theorem dX12_throwsOne___30 : decode cX12_throwsOne__ 30 = .ok (.ifCond .ne 11, 3) := by decide +kernel
theorem dX12_throwsOne___33 : decode cX12_throwsOne__ 33 = .ok (.iload_n 2, 1) := by decide +kernel
theorem dX12_throwsOne___34 : decode cX12_throwsOne__ 34 = .ok (.ifCond .ne 7, 3) := by decide +kernel
theorem dX12_throwsOne___37 : decode cX12_throwsOne__ 37 = .ok (.iload_n 3, 1) := by decide +kernel
theorem dX12_throwsOne___38 : decode cX12_throwsOne__ 38 = .ok (.ifCond .eq 7, 3) := by decide +kernel
theorem dX12_throwsOne___41 : decode cX12_throwsOne__ 41 = .ok (.iconst 1, 1) := by decide +kernel
theorem dX12_throwsOne___42 : decode cX12_throwsOne__ 42 = .ok (.goto 4, 3) := by decide +kernel
theorem dX12_throwsOne___45 : decode cX12_throwsOne__ 45 = .ok (.iconst 0, 1) := by decide +kernel
theorem dX12_throwsOne___46 : decode cX12_throwsOne__ 46 = .ok (.ireturn, 1) := by decide +kernel
theorem dX12_isTrough_0 : decode cX12_isTrough 0 = .ok (.iload_n 1, 1) := by decide +kernel
theorem dX12_isTrough_1 : decode cX12_isTrough 1 = .ok (.iconst 0, 1) := by decide +kernel
theorem dX12_isTrough_2 : decode cX12_isTrough 2 = .ok (.aload_n 0, 1) := by decide +kernel
theorem dX12_isTrough_3 : decode cX12_isTrough 3 = .ok (.getfield 7, 3) := by decide +kernel
theorem dX12_isTrough_6 : decode cX12_isTrough 6 = .ok (.bipush 9, 2) := by decide +kernel
theorem dX12_isTrough_8 : decode cX12_isTrough 8 = .ok (.iaload, 1) := by decide +kernel
theorem dX12_isTrough_9 : decode cX12_isTrough 9 = .ok (.iconst 1, 1) := by decide +kernel
theorem dX12_isTrough_10 : decode cX12_isTrough 10 = .ok (.isub, 1) := by decide +kernel
theorem dX12_isTrough_11 : decode cX12_isTrough 11 = .ok (.invokestatic 57, 3) := by decide +kernel
theorem dX12_isTrough_14 : decode cX12_isTrough 14 = .ok (.ireturn, 1) := by decide +kernel
theorem dX12_isProbe_0 : decode cX12_isProbe 0 = .ok (.iload_n 1, 1) := by decide +kernel
theorem dX12_isProbe_1 : decode cX12_isProbe 1 = .ok (.iconst 0, 1) := by decide +kernel
theorem dX12_isProbe_2 : decode cX12_isProbe 2 = .ok (.aload_n 0, 1) := by decide +kernel
theorem dX12_isProbe_3 : decode cX12_isProbe 3 = .ok (.getfield 7, 3) := by decide +kernel
theorem dX12_isProbe_6 : decode cX12_isProbe 6 = .ok (.bipush 10, 2) := by decide +kernel
theorem dX12_isProbe_8 : decode cX12_isProbe 8 = .ok (.iaload, 1) := by decide +kernel
theorem dX12_isProbe_9 : decode cX12_isProbe 9 = .ok (.iconst 1, 1) := by decide +kernel
theorem dX12_isProbe_10 : decode cX12_isProbe 10 = .ok (.isub, 1) := by decide +kernel
theorem dX12_isProbe_11 : decode cX12_isProbe 11 = .ok (.invokestatic 57, 3) := by decide +kernel
theorem dX12_isProbe_14 : decode cX12_isProbe 14 = .ok (.ireturn, 1) := by decide +kernel
theorem dX12_of_0 : decode cX12_of 0 = .ok (.aload_n 0, 1) := by decide +kernel
theorem dX12_of_1 : decode cX12_of 1 = .ok (.getfield 7, 3) := by decide +kernel
theorem dX12_of_4 : decode cX12_of 4 = .ok (.bipush 17, 2) := by decide +kernel
theorem dX12_of_6 : decode cX12_of 6 = .ok (.bipush 9, 2) := by decide +kernel
theorem dX12_of_8 : decode cX12_of 8 = .ok (.iload_n 1, 1) := by decide +kernel
theorem dX12_of_9 : decode cX12_of 9 = .ok (.imul, 1) := by decide +kernel
theorem dX12_of_10 : decode cX12_of 10 = .ok (.iadd, 1) := by decide +kernel
theorem dX12_of_11 : decode cX12_of 11 = .ok (.iload_n 2, 1) := by decide +kernel
theorem dX12_of_12 : decode cX12_of 12 = .ok (.iadd, 1) := by decide +kernel
theorem dX12_of_13 : decode cX12_of 13 = .ok (.iaload, 1) := by decide +kernel
theorem dX12_of_14 : decode cX12_of 14 = .ok (.ireturn, 1) := by decide +kernel
theorem dX12_to_0 : decode cX12_to 0 = .ok (.aload_n 0, 1) := by decide +kernel
theorem dX12_to_1 : decode cX12_to 1 = .ok (.getfield 7, 3) := by decide +kernel
theorem dX12_to_4 : decode cX12_to 4 = .ok (.bipush 17, 2) := by decide +kernel
theorem dX12_to_6 : decode cX12_to 6 = .ok (.bipush 9, 2) := by decide +kernel
theorem dX12_to_8 : decode cX12_to 8 = .ok (.iload_n 1, 1) := by decide +kernel
theorem dX12_to_9 : decode cX12_to 9 = .ok (.imul, 1) := by decide +kernel
theorem dX12_to_10 : decode cX12_to 10 = .ok (.iadd, 1) := by decide +kernel
theorem dX12_to_11 : decode cX12_to 11 = .ok (.iload_n 2, 1) := by decide +kernel
theorem dX12_to_12 : decode cX12_to 12 = .ok (.iadd, 1) := by decide +kernel
theorem dX12_to_13 : decode cX12_to 13 = .ok (.iload_n 3, 1) := by decide +kernel
theorem dX12_to_14 : decode cX12_to 14 = .ok (.iastore, 1) := by decide +kernel
theorem dX12_to_15 : decode cX12_to 15 = .ok (.return_, 1) := by decide +kernel
theorem dX12_probe_0 : decode cX12_probe 0 = .ok (.aload_n 0, 1) := by decide +kernel
theorem dX12_probe_1 : decode cX12_probe 1 = .ok (.getfield 7, 3) := by decide +kernel
theorem dX12_probe_4 : decode cX12_probe 4 = .ok (.bipush 89, 2) := by decide +kernel
theorem dX12_probe_6 : decode cX12_probe 6 = .ok (.iconst 3, 1) := by decide +kernel
theorem dX12_probe_7 : decode cX12_probe 7 = .ok (.iload_n 1, 1) := by decide +kernel
theorem dX12_probe_8 : decode cX12_probe 8 = .ok (.imul, 1) := by decide +kernel
theorem dX12_probe_9 : decode cX12_probe 9 = .ok (.iadd, 1) := by decide +kernel
theorem dX12_probe_10 : decode cX12_probe 10 = .ok (.iload_n 2, 1) := by decide +kernel
theorem dX12_probe_11 : decode cX12_probe 11 = .ok (.iadd, 1) := by decide +kernel
theorem dX12_probe_12 : decode cX12_probe 12 = .ok (.iaload, 1) := by decide +kernel
theorem dX12_probe_13 : decode cX12_probe 13 = .ok (.ireturn, 1) := by decide +kernel
theorem dX12_isEmpty_0 : decode cX12_isEmpty 0 = .ok (.aload_n 0, 1) := by decide +kernel
theorem dX12_isEmpty_1 : decode cX12_isEmpty 1 = .ok (.iload_n 1, 1) := by decide +kernel
theorem dX12_isEmpty_2 : decode cX12_isEmpty 2 = .ok (.iconst 3, 1) := by decide +kernel
theorem dX12_isEmpty_3 : decode cX12_isEmpty 3 = .ok (.invokevirtual 61, 3) := by decide +kernel
theorem dX12_isEmpty_6 : decode cX12_isEmpty 6 = .ok (.ifCond .ne 7, 3) := by decide +kernel
theorem dX12_isEmpty_9 : decode cX12_isEmpty 9 = .ok (.iconst 1, 1) := by decide +kernel
theorem dX12_isEmpty_10 : decode cX12_isEmpty 10 = .ok (.goto 4, 3) := by decide +kernel
theorem dX12_isEmpty_13 : decode cX12_isEmpty 13 = .ok (.iconst 0, 1) := by decide +kernel
theorem dX12_isEmpty_14 : decode cX12_isEmpty 14 = .ok (.ireturn, 1) := by decide +kernel
theorem dX12_isWet_0 : decode cX12_isWet 0 = .ok (.iconst 0, 1) := by decide +kernel
theorem dX12_isWet_1 : decode cX12_isWet 1 = .ok (.istore_n 2, 1) := by decide +kernel
theorem dX12_isWet_2 : decode cX12_isWet 2 = .ok (.iload_n 2, 1) := by decide +kernel
theorem dX12_isWet_3 : decode cX12_isWet 3 = .ok (.aload_n 0, 1) := by decide +kernel
theorem dX12_isWet_4 : decode cX12_isWet 4 = .ok (.getfield 7, 3) := by decide +kernel
theorem dX12_isWet_7 : decode cX12_isWet 7 = .ok (.iconst 5, 1) := by decide +kernel
theorem dX12_isWet_8 : decode cX12_isWet 8 = .ok (.iaload, 1) := by decide +kernel
theorem dX12_isWet_9 : decode cX12_isWet 9 = .ok (.if_icmp .ge 34, 3) := by decide +kernel
theorem dX12_isWet_12 : decode cX12_isWet 12 = .ok (.iload_n 1, 1) := by decide +kernel
theorem dX12_isWet_13 : decode cX12_isWet 13 = .ok (.bipush 24, 2) := by decide +kernel
theorem dX12_isWet_15 : decode cX12_isWet 15 = .ok (.idiv, 1) := by decide +kernel
theorem dX12_isWet_16 : decode cX12_isWet 16 = .ok (.aload_n 0, 1) := by decide +kernel
theorem dX12_isWet_17 : decode cX12_isWet 17 = .ok (.getfield 7, 3) := by decide +kernel
theorem dX12_isWet_20 : decode cX12_isWet 20 = .ok (.bipush 6, 2) := by decide +kernel
theorem dX12_isWet_22 : decode cX12_isWet 22 = .ok (.iload_n 2, 1) := by decide +kernel
theorem dX12_isWet_23 : decode cX12_isWet 23 = .ok (.iadd, 1) := by decide +kernel
theorem dX12_isWet_24 : decode cX12_isWet 24 = .ok (.iaload, 1) := by decide +kernel
theorem dX12_isWet_25 : decode cX12_isWet 25 = .ok (.isub, 1) := by decide +kernel
theorem dX12_isWet_26 : decode cX12_isWet 26 = .ok (.iconst 0, 1) := by decide +kernel
theorem dX12_isWet_27 : decode cX12_isWet 27 = .ok (.bipush 6, 2) := by decide +kernel
theorem dX12_isWet_29 : decode cX12_isWet 29 = .ok (.invokestatic 57, 3) := by decide +kernel
theorem dX12_isWet_32 : decode cX12_isWet 32 = .ok (.ifCond .eq 5, 3) := by decide +kernel
theorem dX12_isWet_35 : decode cX12_isWet 35 = .ok (.iconst 1, 1) := by decide +kernel
theorem dX12_isWet_36 : decode cX12_isWet 36 = .ok (.ireturn, 1) := by decide +kernel
theorem dX12_isWet_37 : decode cX12_isWet 37 = .ok (.iinc 2 1, 3) := by decide +kernel
theorem dX12_isWet_40 : decode cX12_isWet 40 = .ok (.goto (-38), 3) := by decide +kernel
theorem dX12_isWet_43 : decode cX12_isWet 43 = .ok (.iconst 0, 1) := by decide +kernel
theorem dX12_isWet_44 : decode cX12_isWet 44 = .ok (.ireturn, 1) := by decide +kernel
theorem dX12_humid_0 : decode cX12_humid 0 = .ok (.aload_n 0, 1) := by decide +kernel
theorem dX12_humid_1 : decode cX12_humid 1 = .ok (.iload_n 1, 1) := by decide +kernel
theorem dX12_humid_2 : decode cX12_humid 2 = .ok (.invokevirtual 65, 3) := by decide +kernel
theorem dX12_humid_5 : decode cX12_humid 5 = .ok (.ifCond .eq 8, 3) := by decide +kernel
theorem dX12_humid_8 : decode cX12_humid 8 = .ok (.bipush 95, 2) := by decide +kernel
theorem dX12_humid_10 : decode cX12_humid 10 = .ok (.goto 9, 3) := by decide +kernel
theorem dX12_humid_13 : decode cX12_humid 13 = .ok (.aload_n 0, 1) := by decide +kernel
theorem dX12_humid_14 : decode cX12_humid 14 = .ok (.getfield 7, 3) := by decide +kernel
theorem dX12_humid_17 : decode cX12_humid 17 = .ok (.iconst 2, 1) := by decide +kernel
theorem dX12_humid_18 : decode cX12_humid 18 = .ok (.iaload, 1) := by decide +kernel
theorem dX12_humid_19 : decode cX12_humid 19 = .ok (.ireturn, 1) := by decide +kernel
theorem dX12_dry_0 : decode cX12_dry 0 = .ok (.bipush 100, 2) := by decide +kernel
theorem dX12_dry_2 : decode cX12_dry 2 = .ok (.aload_n 0, 1) := by decide +kernel
theorem dX12_dry_3 : decode cX12_dry 3 = .ok (.iload_n 1, 1) := by decide +kernel
theorem dX12_dry_4 : decode cX12_dry 4 = .ok (.invokevirtual 69, 3) := by decide +kernel
theorem dX12_dry_7 : decode cX12_dry 7 = .ok (.isub, 1) := by decide +kernel
theorem dX12_dry_8 : decode cX12_dry 8 = .ok (.iconst 5, 1) := by decide +kernel
theorem dX12_dry_9 : decode cX12_dry 9 = .ok (.aload_n 0, 1) := by decide +kernel
theorem dX12_dry_10 : decode cX12_dry 10 = .ok (.getfield 7, 3) := by decide +kernel
theorem dX12_dry_13 : decode cX12_dry 13 = .ok (.iconst 1, 1) := by decide +kernel
theorem dX12_dry_14 : decode cX12_dry 14 = .ok (.iaload, 1) := by decide +kernel
theorem dX12_dry_15 : decode cX12_dry 15 = .ok (.imul, 1) := by decide +kernel
theorem dX12_dry_16 : decode cX12_dry 16 = .ok (.iadd, 1) := by decide +kernel
theorem dX12_dry_17 : decode cX12_dry 17 = .ok (.ireturn, 1) := by decide +kernel
theorem dX12_filled_0 : decode cX12_filled 0 = .ok (.aload_n 0, 1) := by decide +kernel
theorem dX12_filled_1 : decode cX12_filled 1 = .ok (.iload_n 1, 1) := by decide +kernel
theorem dX12_filled_2 : decode cX12_filled 2 = .ok (.iconst 3, 1) := by decide +kernel
theorem dX12_filled_3 : decode cX12_filled 3 = .ok (.invokevirtual 61, 3) := by decide +kernel
theorem dX12_filled_6 : decode cX12_filled 6 = .ok (.bipush 100, 2) := by decide +kernel
theorem dX12_filled_8 : decode cX12_filled 8 = .ok (.imul, 1) := by decide +kernel
theorem dX12_filled_9 : decode cX12_filled 9 = .ok (.aload_n 0, 1) := by decide +kernel
theorem dX12_filled_10 : decode cX12_filled 10 = .ok (.iload_n 1, 1) := by decide +kernel
theorem dX12_filled_11 : decode cX12_filled 11 = .ok (.iconst 0, 1) := by decide +kernel
theorem dX12_filled_12 : decode cX12_filled 12 = .ok (.invokevirtual 61, 3) := by decide +kernel
theorem dX12_filled_15 : decode cX12_filled 15 = .ok (.idiv, 1) := by decide +kernel
theorem dX12_filled_16 : decode cX12_filled 16 = .ok (.ireturn, 1) := by decide +kernel
theorem dX12_lossIn_0 : decode cX12_lossIn 0 = .ok (.aload_n 0, 1) := by decide +kernel
theorem dX12_lossIn_1 : decode cX12_lossIn 1 = .ok (.iload_n 1, 1) := by decide +kernel
theorem dX12_lossIn_2 : decode cX12_lossIn 2 = .ok (.invokevirtual 73, 3) := by decide +kernel
theorem dX12_lossIn_5 : decode cX12_lossIn 5 = .ok (.ifCond .eq 7, 3) := by decide +kernel
theorem dX12_lossIn_8 : decode cX12_lossIn 8 = .ok (.iconst 0, 1) := by decide +kernel
theorem dX12_lossIn_9 : decode cX12_lossIn 9 = .ok (.goto 27, 3) := by decide +kernel
theorem dX12_lossIn_12 : decode cX12_lossIn 12 = .ok (.aload_n 0, 1) := by decide +kernel
theorem dX12_lossIn_13 : decode cX12_lossIn 13 = .ok (.iload_n 1, 1) := by decide +kernel
theorem dX12_lossIn_14 : decode cX12_lossIn 14 = .ok (.iconst 1, 1) := by decide +kernel
theorem dX12_lossIn_15 : decode cX12_lossIn 15 = .ok (.invokevirtual 61, 3) := by decide +kernel
theorem dX12_lossIn_18 : decode cX12_lossIn 18 = .ok (.aload_n 0, 1) := by decide +kernel
theorem dX12_lossIn_19 : decode cX12_lossIn 19 = .ok (.iload_n 2, 1) := by decide +kernel
theorem dX12_lossIn_20 : decode cX12_lossIn 20 = .ok (.invokevirtual 76, 3) := by decide +kernel
theorem dX12_lossIn_23 : decode cX12_lossIn 23 = .ok (.imul, 1) := by decide +kernel
theorem dX12_lossIn_24 : decode cX12_lossIn 24 = .ok (.bipush 60, 2) := by decide +kernel
theorem dX12_lossIn_26 : decode cX12_lossIn 26 = .ok (.imul, 1) := by decide +kernel
theorem dX12_lossIn_27 : decode cX12_lossIn 27 = .ok (.bipush 100, 2) := by decide +kernel
theorem dX12_lossIn_29 : decode cX12_lossIn 29 = .ok (.aload_n 0, 1) := by decide +kernel
theorem dX12_lossIn_30 : decode cX12_lossIn 30 = .ok (.iload_n 1, 1) := by decide +kernel
theorem dX12_lossIn_31 : decode cX12_lossIn 31 = .ok (.invokevirtual 79, 3) := by decide +kernel
theorem dX12_lossIn_34 : decode cX12_lossIn 34 = .ok (.iadd, 1) := by decide +kernel
theorem dX12_lossIn_35 : decode cX12_lossIn 35 = .ok (.idiv, 1) := by decide +kernel
theorem dX12_lossIn_36 : decode cX12_lossIn 36 = .ok (.ireturn, 1) := by decide +kernel
theorem dX12_apart_0 : decode cX12_apart 0 = .ok (.aload_n 0, 1) := by decide +kernel
theorem dX12_apart_1 : decode cX12_apart 1 = .ok (.iload_n 1, 1) := by decide +kernel
theorem dX12_apart_2 : decode cX12_apart 2 = .ok (.iconst 4, 1) := by decide +kernel
theorem dX12_apart_3 : decode cX12_apart 3 = .ok (.invokevirtual 61, 3) := by decide +kernel
theorem dX12_apart_6 : decode cX12_apart 6 = .ok (.aload_n 0, 1) := by decide +kernel
theorem dX12_apart_7 : decode cX12_apart 7 = .ok (.iload_n 1, 1) := by decide +kernel
theorem dX12_apart_8 : decode cX12_apart 8 = .ok (.iconst 5, 1) := by decide +kernel
theorem dX12_apart_9 : decode cX12_apart 9 = .ok (.invokevirtual 61, 3) := by decide +kernel
theorem dX12_apart_12 : decode cX12_apart 12 = .ok (.isub, 1) := by decide +kernel
theorem dX12_apart_13 : decode cX12_apart 13 = .ok (.invokestatic 82, 3) := by decide +kernel
theorem dX12_apart_16 : decode cX12_apart 16 = .ok (.ireturn, 1) := by decide +kernel
theorem dX12_markOf_0 : decode cX12_markOf 0 = .ok (.iconst 0, 1) := by decide +kernel
theorem dX12_markOf_1 : decode cX12_markOf 1 = .ok (.bipush 100, 2) := by decide +kernel
theorem dX12_markOf_3 : decode cX12_markOf 3 = .ok (.aload_n 0, 1) := by decide +kernel
theorem dX12_markOf_4 : decode cX12_markOf 4 = .ok (.iload_n 1, 1) := by decide +kernel
theorem dX12_markOf_5 : decode cX12_markOf 5 = .ok (.invokevirtual 85, 3) := by decide +kernel
theorem dX12_markOf_8 : decode cX12_markOf 8 = .ok (.isub, 1) := by decide +kernel
theorem dX12_markOf_9 : decode cX12_markOf 9 = .ok (.iconst 2, 1) := by decide +kernel
theorem dX12_markOf_10 : decode cX12_markOf 10 = .ok (.aload_n 0, 1) := by decide +kernel
theorem dX12_markOf_11 : decode cX12_markOf 11 = .ok (.iload_n 1, 1) := by decide +kernel
theorem dX12_markOf_12 : decode cX12_markOf 12 = .ok (.bipush 7, 2) := by decide +kernel
theorem dX12_markOf_14 : decode cX12_markOf 14 = .ok (.invokevirtual 61, 3) := by decide +kernel
theorem dX12_markOf_17 : decode cX12_markOf 17 = .ok (.imul, 1) := by decide +kernel
theorem dX12_markOf_18 : decode cX12_markOf 18 = .ok (.isub, 1) := by decide +kernel
theorem dX12_markOf_19 : decode cX12_markOf 19 = .ok (.invokestatic 88, 3) := by decide +kernel
theorem dX12_markOf_22 : decode cX12_markOf 22 = .ok (.ireturn, 1) := by decide +kernel
theorem dX12_isAt_0 : decode cX12_isAt 0 = .ok (.iload_n 1, 1) := by decide +kernel
theorem dX12_isAt_1 : decode cX12_isAt 1 = .ok (.aload_n 0, 1) := by decide +kernel
theorem dX12_isAt_2 : decode cX12_isAt 2 = .ok (.getfield 7, 3) := by decide +kernel
theorem dX12_isAt_5 : decode cX12_isAt 5 = .ok (.iconst 3, 1) := by decide +kernel
theorem dX12_isAt_6 : decode cX12_isAt 6 = .ok (.iaload, 1) := by decide +kernel
theorem dX12_isAt_7 : decode cX12_isAt 7 = .ok (.aload_n 0, 1) := by decide +kernel
theorem dX12_isAt_8 : decode cX12_isAt 8 = .ok (.getfield 7, 3) := by decide +kernel
theorem dX12_isAt_11 : decode cX12_isAt 11 = .ok (.iconst 4, 1) := by decide +kernel
theorem dX12_isAt_12 : decode cX12_isAt 12 = .ok (.iaload, 1) := by decide +kernel
theorem dX12_isAt_13 : decode cX12_isAt 13 = .ok (.isub, 1) := by decide +kernel
theorem dX12_isAt_14 : decode cX12_isAt 14 = .ok (.aload_n 0, 1) := by decide +kernel
theorem dX12_isAt_15 : decode cX12_isAt 15 = .ok (.getfield 7, 3) := by decide +kernel
theorem dX12_isAt_18 : decode cX12_isAt 18 = .ok (.iconst 3, 1) := by decide +kernel
theorem dX12_isAt_19 : decode cX12_isAt 19 = .ok (.iaload, 1) := by decide +kernel
theorem dX12_isAt_20 : decode cX12_isAt 20 = .ok (.aload_n 0, 1) := by decide +kernel
theorem dX12_isAt_21 : decode cX12_isAt 21 = .ok (.getfield 7, 3) := by decide +kernel
theorem dX12_isAt_24 : decode cX12_isAt 24 = .ok (.iconst 4, 1) := by decide +kernel
theorem dX12_isAt_25 : decode cX12_isAt 25 = .ok (.iaload, 1) := by decide +kernel
theorem dX12_isAt_26 : decode cX12_isAt 26 = .ok (.iadd, 1) := by decide +kernel
theorem dX12_isAt_27 : decode cX12_isAt 27 = .ok (.invokestatic 57, 3) := by decide +kernel
theorem dX12_isAt_30 : decode cX12_isAt 30 = .ok (.ireturn, 1) := by decide +kernel
theorem dX12_isReady_0 : decode cX12_isReady 0 = .ok (.aload_n 0, 1) := by decide +kernel
theorem dX12_isReady_1 : decode cX12_isReady 1 = .ok (.iload_n 1, 1) := by decide +kernel
theorem dX12_isReady_2 : decode cX12_isReady 2 = .ok (.invokevirtual 73, 3) := by decide +kernel
theorem dX12_isReady_5 : decode cX12_isReady 5 = .ok (.ifCond .ne 33, 3) := by decide +kernel
theorem dX12_isReady_8 : decode cX12_isReady 8 = .ok (.aload_n 0, 1) := by decide +kernel
theorem dX12_isReady_9 : decode cX12_isReady 9 = .ok (.aload_n 0, 1) := by decide +kernel
theorem dX12_isReady_10 : decode cX12_isReady 10 = .ok (.iload_n 1, 1) := by decide +kernel
theorem dX12_isReady_11 : decode cX12_isReady 11 = .ok (.iconst 4, 1) := by decide +kernel
theorem dX12_isReady_12 : decode cX12_isReady 12 = .ok (.invokevirtual 61, 3) := by decide +kernel
theorem dX12_isReady_15 : decode cX12_isReady 15 = .ok (.invokevirtual 93, 3) := by decide +kernel
theorem dX12_isReady_18 : decode cX12_isReady 18 = .ok (.ifCond .eq 20, 3) := by decide +kernel
theorem dX12_isReady_21 : decode cX12_isReady 21 = .ok (.aload_n 0, 1) := by decide +kernel
theorem dX12_isReady_22 : decode cX12_isReady 22 = .ok (.aload_n 0, 1) := by decide +kernel
theorem dX12_isReady_23 : decode cX12_isReady 23 = .ok (.iload_n 1, 1) := by decide +kernel
theorem dX12_isReady_24 : decode cX12_isReady 24 = .ok (.iconst 5, 1) := by decide +kernel
theorem dX12_isReady_25 : decode cX12_isReady 25 = .ok (.invokevirtual 61, 3) := by decide +kernel
theorem dX12_isReady_28 : decode cX12_isReady 28 = .ok (.invokevirtual 93, 3) := by decide +kernel
theorem dX12_isReady_31 : decode cX12_isReady 31 = .ok (.ifCond .eq 7, 3) := by decide +kernel
theorem dX12_isReady_34 : decode cX12_isReady 34 = .ok (.iconst 1, 1) := by decide +kernel
theorem dX12_isReady_35 : decode cX12_isReady 35 = .ok (.goto 4, 3) := by decide +kernel
theorem dX12_isReady_38 : decode cX12_isReady 38 = .ok (.iconst 0, 1) := by decide +kernel
theorem dX12_isReady_39 : decode cX12_isReady 39 = .ok (.ireturn, 1) := by decide +kernel
theorem dX12_whyStays_0 : decode cX12_whyStays 0 = .ok (.aload_n 0, 1) := by decide +kernel
theorem dX12_whyStays_1 : decode cX12_whyStays 1 = .ok (.iload_n 1, 1) := by decide +kernel
theorem dX12_whyStays_2 : decode cX12_whyStays 2 = .ok (.invokevirtual 73, 3) := by decide +kernel
theorem dX12_whyStays_5 : decode cX12_whyStays 5 = .ok (.ifCond .eq 5, 3) := by decide +kernel
theorem dX12_whyStays_8 : decode cX12_whyStays 8 = .ok (.iconst 1, 1) := by decide +kernel
theorem dX12_whyStays_9 : decode cX12_whyStays 9 = .ok (.ireturn, 1) := by decide +kernel
theorem dX12_whyStays_10 : decode cX12_whyStays 10 = .ok (.aload_n 0, 1) := by decide +kernel
theorem dX12_whyStays_11 : decode cX12_whyStays 11 = .ok (.iload_n 1, 1) := by decide +kernel
theorem dX12_whyStays_12 : decode cX12_whyStays 12 = .ok (.iconst 4, 1) := by decide +kernel
theorem dX12_whyStays_13 : decode cX12_whyStays 13 = .ok (.invokevirtual 61, 3) := by decide +kernel
theorem dX12_whyStays_16 : decode cX12_whyStays 16 = .ok (.aload_n 0, 1) := by decide +kernel
theorem dX12_whyStays_17 : decode cX12_whyStays 17 = .ok (.iload_n 1, 1) := by decide +kernel
theorem dX12_whyStays_18 : decode cX12_whyStays 18 = .ok (.iconst 5, 1) := by decide +kernel
theorem dX12_whyStays_19 : decode cX12_whyStays 19 = .ok (.invokevirtual 61, 3) := by decide +kernel
theorem dX12_whyStays_22 : decode cX12_whyStays 22 = .ok (.invokestatic 96, 3) := by decide +kernel
theorem dX12_whyStays_25 : decode cX12_whyStays 25 = .ok (.istore_n 2, 1) := by decide +kernel
theorem dX12_whyStays_26 : decode cX12_whyStays 26 = .ok (.iload_n 2, 1) := by decide +kernel
theorem dX12_whyStays_27 : decode cX12_whyStays 27 = .ok (.aload_n 0, 1) := by decide +kernel
theorem dX12_whyStays_28 : decode cX12_whyStays 28 = .ok (.getfield 7, 3) := by decide +kernel
theorem dX12_whyStays_31 : decode cX12_whyStays 31 = .ok (.iconst 3, 1) := by decide +kernel
theorem dX12_whyStays_32 : decode cX12_whyStays 32 = .ok (.iaload, 1) := by decide +kernel
theorem dX12_whyStays_33 : decode cX12_whyStays 33 = .ok (.aload_n 0, 1) := by decide +kernel
theorem dX12_whyStays_34 : decode cX12_whyStays 34 = .ok (.getfield 7, 3) := by decide +kernel
theorem dX12_whyStays_37 : decode cX12_whyStays 37 = .ok (.iconst 4, 1) := by decide +kernel
theorem dX12_whyStays_38 : decode cX12_whyStays 38 = .ok (.iaload, 1) := by decide +kernel
theorem dX12_whyStays_39 : decode cX12_whyStays 39 = .ok (.isub, 1) := by decide +kernel
theorem dX12_whyStays_40 : decode cX12_whyStays 40 = .ok (.if_icmp .ge 5, 3) := by decide +kernel
theorem dX12_whyStays_43 : decode cX12_whyStays 43 = .ok (.iconst 2, 1) := by decide +kernel
theorem dX12_whyStays_44 : decode cX12_whyStays 44 = .ok (.ireturn, 1) := by decide +kernel
theorem dX12_whyStays_45 : decode cX12_whyStays 45 = .ok (.aload_n 0, 1) := by decide +kernel
theorem dX12_whyStays_46 : decode cX12_whyStays 46 = .ok (.iload_n 1, 1) := by decide +kernel
theorem dX12_whyStays_47 : decode cX12_whyStays 47 = .ok (.invokevirtual 99, 3) := by decide +kernel
theorem dX12_whyStays_50 : decode cX12_whyStays 50 = .ok (.ifCond .eq 7, 3) := by decide +kernel
theorem dX12_whyStays_53 : decode cX12_whyStays 53 = .ok (.iconst 0, 1) := by decide +kernel
theorem dX12_whyStays_54 : decode cX12_whyStays 54 = .ok (.goto 4, 3) := by decide +kernel
theorem dX12_whyStays_57 : decode cX12_whyStays 57 = .ok (.iconst 3, 1) := by decide +kernel
theorem dX12_whyStays_58 : decode cX12_whyStays 58 = .ok (.ireturn, 1) := by decide +kernel
theorem dX12_readyMany_0 : decode cX12_readyMany 0 = .ok (.iconst 0, 1) := by decide +kernel
theorem dX12_readyMany_1 : decode cX12_readyMany 1 = .ok (.istore_n 1, 1) := by decide +kernel
theorem dX12_readyMany_2 : decode cX12_readyMany 2 = .ok (.iconst 0, 1) := by decide +kernel
theorem dX12_readyMany_3 : decode cX12_readyMany 3 = .ok (.istore_n 2, 1) := by decide +kernel
theorem dX12_readyMany_4 : decode cX12_readyMany 4 = .ok (.iload_n 2, 1) := by decide +kernel
theorem dX12_readyMany_5 : decode cX12_readyMany 5 = .ok (.aload_n 0, 1) := by decide +kernel
theorem dX12_readyMany_6 : decode cX12_readyMany 6 = .ok (.getfield 7, 3) := by decide +kernel
theorem dX12_readyMany_9 : decode cX12_readyMany 9 = .ok (.bipush 9, 2) := by decide +kernel
theorem dX12_readyMany_11 : decode cX12_readyMany 11 = .ok (.iaload, 1) := by decide +kernel
theorem dX12_readyMany_12 : decode cX12_readyMany 12 = .ok (.if_icmp .ge 25, 3) := by decide +kernel
theorem dX12_readyMany_15 : decode cX12_readyMany 15 = .ok (.iload_n 1, 1) := by decide +kernel
theorem dX12_readyMany_16 : decode cX12_readyMany 16 = .ok (.aload_n 0, 1) := by decide +kernel
theorem dX12_readyMany_17 : decode cX12_readyMany 17 = .ok (.iload_n 2, 1) := by decide +kernel
theorem dX12_readyMany_18 : decode cX12_readyMany 18 = .ok (.invokevirtual 99, 3) := by decide +kernel
theorem dX12_readyMany_21 : decode cX12_readyMany 21 = .ok (.ifCond .eq 7, 3) := by decide +kernel
theorem dX12_readyMany_24 : decode cX12_readyMany 24 = .ok (.iconst 1, 1) := by decide +kernel
theorem dX12_readyMany_25 : decode cX12_readyMany 25 = .ok (.goto 4, 3) := by decide +kernel
theorem dX12_readyMany_28 : decode cX12_readyMany 28 = .ok (.iconst 0, 1) := by decide +kernel
theorem dX12_readyMany_29 : decode cX12_readyMany 29 = .ok (.iadd, 1) := by decide +kernel
theorem dX12_readyMany_30 : decode cX12_readyMany 30 = .ok (.istore_n 1, 1) := by decide +kernel
theorem dX12_readyMany_31 : decode cX12_readyMany 31 = .ok (.iinc 2 1, 3) := by decide +kernel
theorem dX12_readyMany_34 : decode cX12_readyMany 34 = .ok (.goto (-30), 3) := by decide +kernel
theorem dX12_readyMany_37 : decode cX12_readyMany 37 = .ok (.iload_n 1, 1) := by decide +kernel
theorem dX12_readyMany_38 : decode cX12_readyMany 38 = .ok (.ireturn, 1) := by decide +kernel
theorem dX12_dries_0 : decode cX12_dries 0 = .ok (.sipush 300, 3) := by decide +kernel
theorem dX12_dries_3 : decode cX12_dries 3 = .ok (.aload_n 0, 1) := by decide +kernel
theorem dX12_dries_4 : decode cX12_dries 4 = .ok (.iload_n 1, 1) := by decide +kernel
theorem dX12_dries_5 : decode cX12_dries 5 = .ok (.iload_n 2, 1) := by decide +kernel
theorem dX12_dries_6 : decode cX12_dries 6 = .ok (.invokevirtual 61, 3) := by decide +kernel
theorem dX12_dries_9 : decode cX12_dries 9 = .ok (.iload_n 3, 1) := by decide +kernel
theorem dX12_dries_10 : decode cX12_dries 10 = .ok (.isub, 1) := by decide +kernel
theorem dX12_dries_11 : decode cX12_dries 11 = .ok (.invokestatic 88, 3) := by decide +kernel
theorem dX12_dries_14 : decode cX12_dries 14 = .ok (.istore 4, 2) := by decide +kernel
theorem dX12_dries_16 : decode cX12_dries 16 = .ok (.aload_n 0, 1) := by decide +kernel
theorem dX12_dries_17 : decode cX12_dries 17 = .ok (.iload_n 1, 1) := by decide +kernel
theorem dX12_dries_18 : decode cX12_dries 18 = .ok (.iload_n 2, 1) := by decide +kernel
theorem dX12_dries_19 : decode cX12_dries 19 = .ok (.invokevirtual 61, 3) := by decide +kernel
theorem dX12_dries_22 : decode cX12_dries 22 = .ok (.iload 4, 2) := by decide +kernel
theorem dX12_dries_24 : decode cX12_dries 24 = .ok (.isub, 1) := by decide +kernel
theorem dX12_dries_25 : decode cX12_dries 25 = .ok (.aload_n 0, 1) := by decide +kernel
theorem dX12_dries_26 : decode cX12_dries 26 = .ok (.iload_n 1, 1) := by decide +kernel
theorem dX12_dries_27 : decode cX12_dries 27 = .ok (.iconst 3, 1) := by decide +kernel
theorem dX12_dries_28 : decode cX12_dries 28 = .ok (.invokevirtual 61, 3) := by decide +kernel
theorem dX12_dries_31 : decode cX12_dries 31 = .ok (.imul, 1) := by decide +kernel
theorem dX12_dries_32 : decode cX12_dries 32 = .ok (.istore 5, 2) := by decide +kernel
theorem dX12_dries_34 : decode cX12_dries 34 = .ok (.aload_n 0, 1) := by decide +kernel
theorem dX12_dries_35 : decode cX12_dries 35 = .ok (.iload_n 1, 1) := by decide +kernel
theorem dX12_dries_36 : decode cX12_dries 36 = .ok (.iload_n 2, 1) := by decide +kernel
theorem dX12_dries_37 : decode cX12_dries 37 = .ok (.iload 4, 2) := by decide +kernel
theorem dX12_dries_39 : decode cX12_dries 39 = .ok (.invokevirtual 102, 3) := by decide +kernel
theorem dX12_dries_42 : decode cX12_dries 42 = .ok (.aload_n 0, 1) := by decide +kernel
theorem dX12_dries_43 : decode cX12_dries 43 = .ok (.iload_n 1, 1) := by decide +kernel
theorem dX12_dries_44 : decode cX12_dries 44 = .ok (.bipush 8, 2) := by decide +kernel
theorem dX12_dries_46 : decode cX12_dries 46 = .ok (.aload_n 0, 1) := by decide +kernel
theorem dX12_dries_47 : decode cX12_dries 47 = .ok (.iload_n 1, 1) := by decide +kernel
theorem dX12_dries_48 : decode cX12_dries 48 = .ok (.bipush 8, 2) := by decide +kernel
theorem dX12_dries_50 : decode cX12_dries 50 = .ok (.invokevirtual 61, 3) := by decide +kernel
theorem dX12_dries_53 : decode cX12_dries 53 = .ok (.iload 5, 2) := by decide +kernel
theorem dX12_dries_55 : decode cX12_dries 55 = .ok (.isub, 1) := by decide +kernel
theorem dX12_dries_56 : decode cX12_dries 56 = .ok (.invokevirtual 102, 3) := by decide +kernel
theorem dX12_dries_59 : decode cX12_dries 59 = .ok (.aload_n 0, 1) := by decide +kernel
theorem dX12_dries_60 : decode cX12_dries 60 = .ok (.getfield 7, 3) := by decide +kernel
theorem dX12_dries_63 : decode cX12_dries 63 = .ok (.bipush 15, 2) := by decide +kernel
theorem dX12_dries_65 : decode cX12_dries 65 = .ok (.dup2, 1) := by decide +kernel
theorem dX12_dries_66 : decode cX12_dries 66 = .ok (.iaload, 1) := by decide +kernel
theorem dX12_dries_67 : decode cX12_dries 67 = .ok (.iload 5, 2) := by decide +kernel
theorem dX12_dries_69 : decode cX12_dries 69 = .ok (.iadd, 1) := by decide +kernel
theorem dX12_dries_70 : decode cX12_dries 70 = .ok (.iastore, 1) := by decide +kernel
theorem dX12_dries_71 : decode cX12_dries 71 = .ok (.return_, 1) := by decide +kernel
theorem dX12_airs_0 : decode cX12_airs 0 = .ok (.aload_n 0, 1) := by decide +kernel
theorem dX12_airs_1 : decode cX12_airs 1 = .ok (.iload_n 1, 1) := by decide +kernel
theorem dX12_airs_2 : decode cX12_airs 2 = .ok (.invokevirtual 73, 3) := by decide +kernel
theorem dX12_airs_5 : decode cX12_airs 5 = .ok (.ifCond .eq 4, 3) := by decide +kernel
theorem dX12_airs_8 : decode cX12_airs 8 = .ok (.return_, 1) := by decide +kernel
theorem dX12_airs_9 : decode cX12_airs 9 = .ok (.aload_n 0, 1) := by decide +kernel
theorem dX12_airs_10 : decode cX12_airs 10 = .ok (.iload_n 1, 1) := by decide +kernel
theorem dX12_airs_11 : decode cX12_airs 11 = .ok (.iconst 1, 1) := by decide +kernel
theorem dX12_airs_12 : decode cX12_airs 12 = .ok (.invokevirtual 61, 3) := by decide +kernel
theorem dX12_airs_15 : decode cX12_airs 15 = .ok (.ifCond .le 89, 3) := by decide +kernel
theorem dX12_airs_18 : decode cX12_airs 18 = .ok (.aload_n 0, 1) := by decide +kernel
theorem dX12_airs_19 : decode cX12_airs 19 = .ok (.iload_n 1, 1) := by decide +kernel
theorem dX12_airs_20 : decode cX12_airs 20 = .ok (.iload_n 2, 1) := by decide +kernel
theorem dX12_airs_21 : decode cX12_airs 21 = .ok (.invokevirtual 106, 3) := by decide +kernel
theorem dX12_airs_24 : decode cX12_airs 24 = .ok (.istore_n 3, 1) := by decide +kernel
theorem dX12_airs_25 : decode cX12_airs 25 = .ok (.aload_n 0, 1) := by decide +kernel
theorem dX12_airs_26 : decode cX12_airs 26 = .ok (.iload_n 1, 1) := by decide +kernel
theorem dX12_airs_27 : decode cX12_airs 27 = .ok (.iconst 2, 1) := by decide +kernel
theorem dX12_airs_28 : decode cX12_airs 28 = .ok (.invokevirtual 61, 3) := by decide +kernel
theorem dX12_airs_31 : decode cX12_airs 31 = .ok (.iconst 1, 1) := by decide +kernel
theorem dX12_airs_32 : decode cX12_airs 32 = .ok (.if_icmp .ne 7, 3) := by decide +kernel
theorem dX12_airs_35 : decode cX12_airs 35 = .ok (.iconst 1, 1) := by decide +kernel
theorem dX12_airs_36 : decode cX12_airs 36 = .ok (.goto 4, 3) := by decide +kernel
theorem dX12_airs_39 : decode cX12_airs 39 = .ok (.iconst 0, 1) := by decide +kernel
theorem dX12_airs_40 : decode cX12_airs 40 = .ok (.istore 4, 2) := by decide +kernel
theorem dX12_airs_42 : decode cX12_airs 42 = .ok (.aload_n 0, 1) := by decide +kernel
theorem dX12_airs_43 : decode cX12_airs 43 = .ok (.iload_n 1, 1) := by decide +kernel
theorem dX12_airs_44 : decode cX12_airs 44 = .ok (.iload 4, 2) := by decide +kernel
theorem dX12_airs_46 : decode cX12_airs 46 = .ok (.ifCond .eq 7, 3) := by decide +kernel
theorem dX12_airs_49 : decode cX12_airs 49 = .ok (.iconst 5, 1) := by decide +kernel
theorem dX12_airs_50 : decode cX12_airs 50 = .ok (.goto 4, 3) := by decide +kernel
theorem dX12_airs_53 : decode cX12_airs 53 = .ok (.iconst 4, 1) := by decide +kernel
theorem dX12_airs_54 : decode cX12_airs 54 = .ok (.iload_n 3, 1) := by decide +kernel
theorem dX12_airs_55 : decode cX12_airs 55 = .ok (.invokevirtual 109, 3) := by decide +kernel
theorem dX12_airs_58 : decode cX12_airs 58 = .ok (.aload_n 0, 1) := by decide +kernel
theorem dX12_airs_59 : decode cX12_airs 59 = .ok (.iload_n 1, 1) := by decide +kernel
theorem dX12_airs_60 : decode cX12_airs 60 = .ok (.iload 4, 2) := by decide +kernel
theorem dX12_airs_62 : decode cX12_airs 62 = .ok (.ifCond .eq 7, 3) := by decide +kernel
theorem dX12_airs_65 : decode cX12_airs 65 = .ok (.iconst 4, 1) := by decide +kernel
theorem dX12_airs_66 : decode cX12_airs 66 = .ok (.goto 4, 3) := by decide +kernel
theorem dX12_airs_69 : decode cX12_airs 69 = .ok (.iconst 5, 1) := by decide +kernel
theorem dX12_airs_70 : decode cX12_airs 70 = .ok (.iload_n 3, 1) := by decide +kernel
theorem dX12_airs_71 : decode cX12_airs 71 = .ok (.iconst 2, 1) := by decide +kernel
theorem dX12_airs_72 : decode cX12_airs 72 = .ok (.idiv, 1) := by decide +kernel
theorem dX12_airs_73 : decode cX12_airs 73 = .ok (.invokevirtual 109, 3) := by decide +kernel
theorem dX12_airs_76 : decode cX12_airs 76 = .ok (.aload_n 0, 1) := by decide +kernel
theorem dX12_airs_77 : decode cX12_airs 77 = .ok (.iload_n 1, 1) := by decide +kernel
theorem dX12_airs_78 : decode cX12_airs 78 = .ok (.bipush 6, 2) := by decide +kernel
theorem dX12_airs_80 : decode cX12_airs 80 = .ok (.iconst 0, 1) := by decide +kernel
theorem dX12_airs_81 : decode cX12_airs 81 = .ok (.aload_n 0, 1) := by decide +kernel
theorem dX12_airs_82 : decode cX12_airs 82 = .ok (.iload_n 1, 1) := by decide +kernel
theorem dX12_airs_83 : decode cX12_airs 83 = .ok (.bipush 6, 2) := by decide +kernel
theorem dX12_airs_85 : decode cX12_airs 85 = .ok (.invokevirtual 61, 3) := by decide +kernel
theorem dX12_airs_88 : decode cX12_airs 88 = .ok (.aload_n 0, 1) := by decide +kernel
theorem dX12_airs_89 : decode cX12_airs 89 = .ok (.iload_n 1, 1) := by decide +kernel
theorem dX12_airs_90 : decode cX12_airs 90 = .ok (.iconst 1, 1) := by decide +kernel
theorem dX12_airs_91 : decode cX12_airs 91 = .ok (.invokevirtual 61, 3) := by decide +kernel
theorem dX12_airs_94 : decode cX12_airs 94 = .ok (.isub, 1) := by decide +kernel
theorem dX12_airs_95 : decode cX12_airs 95 = .ok (.invokestatic 88, 3) := by decide +kernel
theorem dX12_airs_98 : decode cX12_airs 98 = .ok (.invokevirtual 102, 3) := by decide +kernel
theorem dX12_airs_101 : decode cX12_airs 101 = .ok (.goto 24, 3) := by decide +kernel
theorem dX12_airs_104 : decode cX12_airs 104 = .ok (.aload_n 0, 1) := by decide +kernel
theorem dX12_airs_105 : decode cX12_airs 105 = .ok (.iload_n 1, 1) := by decide +kernel
theorem dX12_airs_106 : decode cX12_airs 106 = .ok (.bipush 6, 2) := by decide +kernel
theorem dX12_airs_108 : decode cX12_airs 108 = .ok (.bipush 20, 2) := by decide +kernel
theorem dX12_airs_110 : decode cX12_airs 110 = .ok (.aload_n 0, 1) := by decide +kernel
theorem dX12_airs_111 : decode cX12_airs 111 = .ok (.iload_n 1, 1) := by decide +kernel
theorem dX12_airs_112 : decode cX12_airs 112 = .ok (.bipush 6, 2) := by decide +kernel
theorem dX12_airs_114 : decode cX12_airs 114 = .ok (.invokevirtual 61, 3) := by decide +kernel
theorem dX12_airs_117 : decode cX12_airs 117 = .ok (.iconst 1, 1) := by decide +kernel
theorem dX12_airs_118 : decode cX12_airs 118 = .ok (.iadd, 1) := by decide +kernel
theorem dX12_airs_119 : decode cX12_airs 119 = .ok (.invokestatic 96, 3) := by decide +kernel
theorem dX12_airs_122 : decode cX12_airs 122 = .ok (.invokevirtual 102, 3) := by decide +kernel
theorem dX12_airs_125 : decode cX12_airs 125 = .ok (.aload_n 0, 1) := by decide +kernel
theorem dX12_airs_126 : decode cX12_airs 126 = .ok (.iload_n 1, 1) := by decide +kernel
theorem dX12_airs_127 : decode cX12_airs 127 = .ok (.bipush 7, 2) := by decide +kernel
theorem dX12_airs_129 : decode cX12_airs 129 = .ok (.aload_n 0, 1) := by decide +kernel
theorem dX12_airs_130 : decode cX12_airs 130 = .ok (.iload_n 1, 1) := by decide +kernel
theorem dX12_airs_131 : decode cX12_airs 131 = .ok (.bipush 7, 2) := by decide +kernel
theorem dX12_airs_133 : decode cX12_airs 133 = .ok (.invokevirtual 61, 3) := by decide +kernel
theorem dX12_airs_136 : decode cX12_airs 136 = .ok (.aload_n 0, 1) := by decide +kernel
theorem dX12_airs_137 : decode cX12_airs 137 = .ok (.iload_n 1, 1) := by decide +kernel
theorem dX12_airs_138 : decode cX12_airs 138 = .ok (.bipush 6, 2) := by decide +kernel
theorem dX12_airs_140 : decode cX12_airs 140 = .ok (.invokevirtual 61, 3) := by decide +kernel
theorem dX12_airs_143 : decode cX12_airs 143 = .ok (.bipush 10, 2) := by decide +kernel
theorem dX12_airs_145 : decode cX12_airs 145 = .ok (.if_icmp .lt 7, 3) := by decide +kernel
theorem dX12_airs_148 : decode cX12_airs 148 = .ok (.iconst 1, 1) := by decide +kernel
theorem dX12_airs_149 : decode cX12_airs 149 = .ok (.goto 4, 3) := by decide +kernel
theorem dX12_airs_152 : decode cX12_airs 152 = .ok (.iconst 0, 1) := by decide +kernel
theorem dX12_airs_153 : decode cX12_airs 153 = .ok (.iadd, 1) := by decide +kernel
theorem dX12_airs_154 : decode cX12_airs 154 = .ok (.invokevirtual 102, 3) := by decide +kernel
theorem dX12_airs_157 : decode cX12_airs 157 = .ok (.return_, 1) := by decide +kernel
theorem dX12_drifts_0 : decode cX12_drifts 0 = .ok (.iconst 0, 1) := by decide +kernel
theorem dX12_drifts_1 : decode cX12_drifts 1 = .ok (.istore_n 1, 1) := by decide +kernel
theorem dX12_drifts_2 : decode cX12_drifts 2 = .ok (.iload_n 1, 1) := by decide +kernel
theorem dX12_drifts_3 : decode cX12_drifts 3 = .ok (.aload_n 0, 1) := by decide +kernel
theorem dX12_drifts_4 : decode cX12_drifts 4 = .ok (.getfield 7, 3) := by decide +kernel
theorem dX12_drifts_7 : decode cX12_drifts 7 = .ok (.bipush 10, 2) := by decide +kernel
theorem dX12_drifts_9 : decode cX12_drifts 9 = .ok (.iaload, 1) := by decide +kernel
theorem dX12_drifts_10 : decode cX12_drifts 10 = .ok (.if_icmp .ge 37, 3) := by decide +kernel
theorem dX12_drifts_13 : decode cX12_drifts 13 = .ok (.bipush 89, 2) := by decide +kernel
theorem dX12_drifts_15 : decode cX12_drifts 15 = .ok (.iconst 3, 1) := by decide +kernel
theorem dX12_drifts_16 : decode cX12_drifts 16 = .ok (.iload_n 1, 1) := by decide +kernel
theorem dX12_drifts_17 : decode cX12_drifts 17 = .ok (.imul, 1) := by decide +kernel
theorem dX12_drifts_18 : decode cX12_drifts 18 = .ok (.iadd, 1) := by decide +kernel
theorem dX12_drifts_19 : decode cX12_drifts 19 = .ok (.iconst 2, 1) := by decide +kernel
theorem dX12_drifts_20 : decode cX12_drifts 20 = .ok (.iadd, 1) := by decide +kernel
theorem dX12_drifts_21 : decode cX12_drifts 21 = .ok (.istore_n 2, 1) := by decide +kernel
theorem dX12_drifts_22 : decode cX12_drifts 22 = .ok (.aload_n 0, 1) := by decide +kernel
theorem dX12_drifts_23 : decode cX12_drifts 23 = .ok (.getfield 7, 3) := by decide +kernel
theorem dX12_drifts_26 : decode cX12_drifts 26 = .ok (.iload_n 2, 1) := by decide +kernel
theorem dX12_drifts_27 : decode cX12_drifts 27 = .ok (.bipush 50, 2) := by decide +kernel
theorem dX12_drifts_29 : decode cX12_drifts 29 = .ok (.aload_n 0, 1) := by decide +kernel
theorem dX12_drifts_30 : decode cX12_drifts 30 = .ok (.getfield 7, 3) := by decide +kernel
theorem dX12_drifts_33 : decode cX12_drifts 33 = .ok (.iload_n 2, 1) := by decide +kernel
theorem dX12_drifts_34 : decode cX12_drifts 34 = .ok (.iaload, 1) := by decide +kernel
theorem dX12_drifts_35 : decode cX12_drifts 35 = .ok (.iconst 1, 1) := by decide +kernel
theorem dX12_drifts_36 : decode cX12_drifts 36 = .ok (.iadd, 1) := by decide +kernel
theorem dX12_drifts_37 : decode cX12_drifts 37 = .ok (.invokestatic 96, 3) := by decide +kernel
theorem dX12_drifts_40 : decode cX12_drifts 40 = .ok (.iastore, 1) := by decide +kernel
theorem dX12_drifts_41 : decode cX12_drifts 41 = .ok (.iinc 1 1, 3) := by decide +kernel
theorem dX12_drifts_44 : decode cX12_drifts 44 = .ok (.goto (-42), 3) := by decide +kernel
theorem dX12_drifts_47 : decode cX12_drifts 47 = .ok (.return_, 1) := by decide +kernel
theorem dX12_passes_0 : decode cX12_passes 0 = .ok (.iconst 0, 1) := by decide +kernel
theorem dX12_passes_1 : decode cX12_passes 1 = .ok (.istore_n 2, 1) := by decide +kernel
theorem dX12_passes_2 : decode cX12_passes 2 = .ok (.iload_n 2, 1) := by decide +kernel
theorem dX12_passes_3 : decode cX12_passes 3 = .ok (.iload_n 1, 1) := by decide +kernel
theorem dX12_passes_4 : decode cX12_passes 4 = .ok (.if_icmp .ge 65, 3) := by decide +kernel
theorem dX12_passes_7 : decode cX12_passes 7 = .ok (.iconst 0, 1) := by decide +kernel
theorem dX12_passes_8 : decode cX12_passes 8 = .ok (.istore_n 3, 1) := by decide +kernel
theorem dX12_passes_9 : decode cX12_passes 9 = .ok (.iload_n 3, 1) := by decide +kernel
theorem dX12_passes_10 : decode cX12_passes 10 = .ok (.aload_n 0, 1) := by decide +kernel
theorem dX12_passes_11 : decode cX12_passes 11 = .ok (.getfield 7, 3) := by decide +kernel
theorem dX12_passes_14 : decode cX12_passes 14 = .ok (.bipush 9, 2) := by decide +kernel
theorem dX12_passes_16 : decode cX12_passes 16 = .ok (.iaload, 1) := by decide +kernel
theorem dX12_passes_17 : decode cX12_passes 17 = .ok (.if_icmp .ge 20, 3) := by decide +kernel
theorem dX12_passes_20 : decode cX12_passes 20 = .ok (.aload_n 0, 1) := by decide +kernel
theorem dX12_passes_21 : decode cX12_passes 21 = .ok (.iload_n 3, 1) := by decide +kernel
theorem dX12_passes_22 : decode cX12_passes 22 = .ok (.aload_n 0, 1) := by decide +kernel
theorem dX12_passes_23 : decode cX12_passes 23 = .ok (.getfield 7, 3) := by decide +kernel
theorem dX12_passes_26 : decode cX12_passes 26 = .ok (.iconst 0, 1) := by decide +kernel
theorem dX12_passes_27 : decode cX12_passes 27 = .ok (.iaload, 1) := by decide +kernel
theorem dX12_passes_28 : decode cX12_passes 28 = .ok (.invokevirtual 112, 3) := by decide +kernel
theorem dX12_passes_31 : decode cX12_passes 31 = .ok (.iinc 3 1, 3) := by decide +kernel
theorem dX12_passes_34 : decode cX12_passes 34 = .ok (.goto (-25), 3) := by decide +kernel
theorem dX12_passes_37 : decode cX12_passes 37 = .ok (.aload_n 0, 1) := by decide +kernel
theorem dX12_passes_38 : decode cX12_passes 38 = .ok (.getfield 7, 3) := by decide +kernel
theorem dX12_passes_41 : decode cX12_passes 41 = .ok (.iconst 0, 1) := by decide +kernel
theorem dX12_passes_42 : decode cX12_passes 42 = .ok (.dup2, 1) := by decide +kernel
theorem dX12_passes_43 : decode cX12_passes 43 = .ok (.iaload, 1) := by decide +kernel
theorem dX12_passes_44 : decode cX12_passes 44 = .ok (.iconst 1, 1) := by decide +kernel
theorem dX12_passes_45 : decode cX12_passes 45 = .ok (.iadd, 1) := by decide +kernel
theorem dX12_passes_46 : decode cX12_passes 46 = .ok (.iastore, 1) := by decide +kernel
theorem dX12_passes_47 : decode cX12_passes 47 = .ok (.aload_n 0, 1) := by decide +kernel
theorem dX12_passes_48 : decode cX12_passes 48 = .ok (.getfield 7, 3) := by decide +kernel
theorem dX12_passes_51 : decode cX12_passes 51 = .ok (.iconst 0, 1) := by decide +kernel
theorem dX12_passes_52 : decode cX12_passes 52 = .ok (.iaload, 1) := by decide +kernel
theorem dX12_passes_53 : decode cX12_passes 53 = .ok (.bipush 24, 2) := by decide +kernel
theorem dX12_passes_55 : decode cX12_passes 55 = .ok (.irem, 1) := by decide +kernel
theorem dX12_passes_56 : decode cX12_passes 56 = .ok (.ifCond .ne 7, 3) := by decide +kernel
theorem dX12_passes_59 : decode cX12_passes 59 = .ok (.aload_n 0, 1) := by decide +kernel
theorem dX12_passes_60 : decode cX12_passes 60 = .ok (.invokevirtual 116, 3) := by decide +kernel
theorem dX12_passes_63 : decode cX12_passes 63 = .ok (.iinc 2 1, 3) := by decide +kernel
theorem dX12_passes_66 : decode cX12_passes 66 = .ok (.goto (-64), 3) := by decide +kernel
theorem dX12_passes_69 : decode cX12_passes 69 = .ok (.aload_n 0, 1) := by decide +kernel
theorem dX12_passes_70 : decode cX12_passes 70 = .ok (.getfield 7, 3) := by decide +kernel
theorem dX12_passes_73 : decode cX12_passes 73 = .ok (.iconst 0, 1) := by decide +kernel
theorem dX12_passes_74 : decode cX12_passes 74 = .ok (.iaload, 1) := by decide +kernel
theorem dX12_passes_75 : decode cX12_passes 75 = .ok (.ireturn, 1) := by decide +kernel
theorem dX12_tries_0 : decode cX12_tries 0 = .ok (.iconst 0, 1) := by decide +kernel
theorem dX12_tries_1 : decode cX12_tries 1 = .ok (.istore 4, 2) := by decide +kernel
theorem dX12_tries_3 : decode cX12_tries 3 = .ok (.iload 4, 2) := by decide +kernel
theorem dX12_tries_5 : decode cX12_tries 5 = .ok (.iload_n 3, 1) := by decide +kernel
theorem dX12_tries_6 : decode cX12_tries 6 = .ok (.if_icmp .ge 25, 3) := by decide +kernel
theorem dX12_tries_9 : decode cX12_tries 9 = .ok (.aload_n 0, 1) := by decide +kernel
theorem dX12_tries_10 : decode cX12_tries 10 = .ok (.iload_n 1, 1) := by decide +kernel
theorem dX12_tries_11 : decode cX12_tries 11 = .ok (.aload_n 0, 1) := by decide +kernel
theorem dX12_tries_12 : decode cX12_tries 12 = .ok (.getfield 7, 3) := by decide +kernel
theorem dX12_tries_15 : decode cX12_tries 15 = .ok (.iconst 0, 1) := by decide +kernel
theorem dX12_tries_16 : decode cX12_tries 16 = .ok (.iaload, 1) := by decide +kernel
theorem dX12_tries_17 : decode cX12_tries 17 = .ok (.iload_n 2, 1) := by decide +kernel
theorem dX12_tries_18 : decode cX12_tries 18 = .ok (.iadd, 1) := by decide +kernel
theorem dX12_tries_19 : decode cX12_tries 19 = .ok (.iload 4, 2) := by decide +kernel
theorem dX12_tries_21 : decode cX12_tries 21 = .ok (.iadd, 1) := by decide +kernel
theorem dX12_tries_22 : decode cX12_tries 22 = .ok (.invokevirtual 112, 3) := by decide +kernel
theorem dX12_tries_25 : decode cX12_tries 25 = .ok (.iinc 4 1, 3) := by decide +kernel
theorem dX12_tries_28 : decode cX12_tries 28 = .ok (.goto (-25), 3) := by decide +kernel
theorem dX12_tries_31 : decode cX12_tries 31 = .ok (.return_, 1) := by decide +kernel
theorem dX12_setAside_0 : decode cX12_setAside 0 = .ok (.iconst 0, 1) := by decide +kernel
theorem dX12_setAside_1 : decode cX12_setAside 1 = .ok (.istore_n 1, 1) := by decide +kernel
theorem dX12_setAside_2 : decode cX12_setAside 2 = .ok (.iload_n 1, 1) := by decide +kernel
theorem dX12_setAside_3 : decode cX12_setAside 3 = .ok (.bipush 107, 2) := by decide +kernel
theorem dX12_setAside_5 : decode cX12_setAside 5 = .ok (.if_icmp .ge 21, 3) := by decide +kernel
theorem dX12_setAside_8 : decode cX12_setAside 8 = .ok (.aload_n 0, 1) := by decide +kernel
theorem dX12_setAside_9 : decode cX12_setAside 9 = .ok (.getfield 16, 3) := by decide +kernel
theorem dX12_setAside_12 : decode cX12_setAside 12 = .ok (.iload_n 1, 1) := by decide +kernel
theorem dX12_setAside_13 : decode cX12_setAside 13 = .ok (.aload_n 0, 1) := by decide +kernel
theorem dX12_setAside_14 : decode cX12_setAside 14 = .ok (.getfield 7, 3) := by decide +kernel
theorem dX12_setAside_17 : decode cX12_setAside 17 = .ok (.iload_n 1, 1) := by decide +kernel
theorem dX12_setAside_18 : decode cX12_setAside 18 = .ok (.iaload, 1) := by decide +kernel
theorem dX12_setAside_19 : decode cX12_setAside 19 = .ok (.iastore, 1) := by decide +kernel
theorem dX12_setAside_20 : decode cX12_setAside 20 = .ok (.iinc 1 1, 3) := by decide +kernel
theorem dX12_setAside_23 : decode cX12_setAside 23 = .ok (.goto (-21), 3) := by decide +kernel
theorem dX12_setAside_26 : decode cX12_setAside 26 = .ok (.return_, 1) := by decide +kernel
theorem dX12_bringBack_0 : decode cX12_bringBack 0 = .ok (.iconst 0, 1) := by decide +kernel
theorem dX12_bringBack_1 : decode cX12_bringBack 1 = .ok (.istore_n 1, 1) := by decide +kernel
theorem dX12_bringBack_2 : decode cX12_bringBack 2 = .ok (.iload_n 1, 1) := by decide +kernel
theorem dX12_bringBack_3 : decode cX12_bringBack 3 = .ok (.bipush 107, 2) := by decide +kernel
theorem dX12_bringBack_5 : decode cX12_bringBack 5 = .ok (.if_icmp .ge 21, 3) := by decide +kernel
theorem dX12_bringBack_8 : decode cX12_bringBack 8 = .ok (.aload_n 0, 1) := by decide +kernel
theorem dX12_bringBack_9 : decode cX12_bringBack 9 = .ok (.getfield 7, 3) := by decide +kernel
theorem dX12_bringBack_12 : decode cX12_bringBack 12 = .ok (.iload_n 1, 1) := by decide +kernel
theorem dX12_bringBack_13 : decode cX12_bringBack 13 = .ok (.aload_n 0, 1) := by decide +kernel
theorem dX12_bringBack_14 : decode cX12_bringBack 14 = .ok (.getfield 16, 3) := by decide +kernel
theorem dX12_bringBack_17 : decode cX12_bringBack 17 = .ok (.iload_n 1, 1) := by decide +kernel
theorem dX12_bringBack_18 : decode cX12_bringBack 18 = .ok (.iaload, 1) := by decide +kernel
theorem dX12_bringBack_19 : decode cX12_bringBack 19 = .ok (.iastore, 1) := by decide +kernel
theorem dX12_bringBack_20 : decode cX12_bringBack 20 = .ok (.iinc 1 1, 3) := by decide +kernel
theorem dX12_bringBack_23 : decode cX12_bringBack 23 = .ok (.goto (-21), 3) := by decide +kernel
theorem dX12_bringBack_26 : decode cX12_bringBack 26 = .ok (.return_, 1) := by decide +kernel
theorem dX12_spreadBy_0 : decode cX12_spreadBy 0 = .ok (.aload_n 0, 1) := by decide +kernel
theorem dX12_spreadBy_1 : decode cX12_spreadBy 1 = .ok (.invokevirtual 119, 3) := by decide +kernel
theorem dX12_spreadBy_4 : decode cX12_spreadBy 4 = .ok (.aload_n 0, 1) := by decide +kernel
theorem dX12_spreadBy_5 : decode cX12_spreadBy 5 = .ok (.iload_n 1, 1) := by decide +kernel
theorem dX12_spreadBy_6 : decode cX12_spreadBy 6 = .ok (.iconst 0, 1) := by decide +kernel
theorem dX12_spreadBy_7 : decode cX12_spreadBy 7 = .ok (.iload_n 2, 1) := by decide +kernel
theorem dX12_spreadBy_8 : decode cX12_spreadBy 8 = .ok (.invokevirtual 122, 3) := by decide +kernel
theorem dX12_spreadBy_11 : decode cX12_spreadBy 11 = .ok (.aload_n 0, 1) := by decide +kernel
theorem dX12_spreadBy_12 : decode cX12_spreadBy 12 = .ok (.iload_n 1, 1) := by decide +kernel
theorem dX12_spreadBy_13 : decode cX12_spreadBy 13 = .ok (.iconst 2, 1) := by decide +kernel
theorem dX12_spreadBy_14 : decode cX12_spreadBy 14 = .ok (.iconst 1, 1) := by decide +kernel
theorem dX12_spreadBy_15 : decode cX12_spreadBy 15 = .ok (.aload_n 0, 1) := by decide +kernel
theorem dX12_spreadBy_16 : decode cX12_spreadBy 16 = .ok (.iload_n 1, 1) := by decide +kernel
theorem dX12_spreadBy_17 : decode cX12_spreadBy 17 = .ok (.iconst 2, 1) := by decide +kernel
theorem dX12_spreadBy_18 : decode cX12_spreadBy 18 = .ok (.invokevirtual 61, 3) := by decide +kernel
theorem dX12_spreadBy_21 : decode cX12_spreadBy 21 = .ok (.isub, 1) := by decide +kernel
theorem dX12_spreadBy_22 : decode cX12_spreadBy 22 = .ok (.invokevirtual 102, 3) := by decide +kernel
theorem dX12_spreadBy_25 : decode cX12_spreadBy 25 = .ok (.aload_n 0, 1) := by decide +kernel
theorem dX12_spreadBy_26 : decode cX12_spreadBy 26 = .ok (.iload_n 1, 1) := by decide +kernel
theorem dX12_spreadBy_27 : decode cX12_spreadBy 27 = .ok (.iload_n 2, 1) := by decide +kernel
theorem dX12_spreadBy_28 : decode cX12_spreadBy 28 = .ok (.iload_n 3, 1) := by decide +kernel
theorem dX12_spreadBy_29 : decode cX12_spreadBy 29 = .ok (.iload_n 2, 1) := by decide +kernel
theorem dX12_spreadBy_30 : decode cX12_spreadBy 30 = .ok (.isub, 1) := by decide +kernel
theorem dX12_spreadBy_31 : decode cX12_spreadBy 31 = .ok (.invokevirtual 122, 3) := by decide +kernel
theorem dX12_spreadBy_34 : decode cX12_spreadBy 34 = .ok (.aload_n 0, 1) := by decide +kernel
theorem dX12_spreadBy_35 : decode cX12_spreadBy 35 = .ok (.iload_n 1, 1) := by decide +kernel
theorem dX12_spreadBy_36 : decode cX12_spreadBy 36 = .ok (.invokevirtual 85, 3) := by decide +kernel
theorem dX12_spreadBy_39 : decode cX12_spreadBy 39 = .ok (.istore 4, 2) := by decide +kernel
theorem dX12_spreadBy_41 : decode cX12_spreadBy 41 = .ok (.aload_n 0, 1) := by decide +kernel
theorem dX12_spreadBy_42 : decode cX12_spreadBy 42 = .ok (.invokevirtual 125, 3) := by decide +kernel
theorem dX12_spreadBy_45 : decode cX12_spreadBy 45 = .ok (.iload 4, 2) := by decide +kernel
theorem dX12_spreadBy_47 : decode cX12_spreadBy 47 = .ok (.ireturn, 1) := by decide +kernel
theorem dX12_isReadyBy_0 : decode cX12_isReadyBy 0 = .ok (.aload_n 0, 1) := by decide +kernel
theorem dX12_isReadyBy_1 : decode cX12_isReadyBy 1 = .ok (.invokevirtual 119, 3) := by decide +kernel
theorem dX12_isReadyBy_4 : decode cX12_isReadyBy 4 = .ok (.aload_n 0, 1) := by decide +kernel
theorem dX12_isReadyBy_5 : decode cX12_isReadyBy 5 = .ok (.iload_n 1, 1) := by decide +kernel
theorem dX12_isReadyBy_6 : decode cX12_isReadyBy 6 = .ok (.iconst 1, 1) := by decide +kernel
theorem dX12_isReadyBy_7 : decode cX12_isReadyBy 7 = .ok (.iload_n 2, 1) := by decide +kernel
theorem dX12_isReadyBy_8 : decode cX12_isReadyBy 8 = .ok (.invokevirtual 102, 3) := by decide +kernel
theorem dX12_isReadyBy_11 : decode cX12_isReadyBy 11 = .ok (.aload_n 0, 1) := by decide +kernel
theorem dX12_isReadyBy_12 : decode cX12_isReadyBy 12 = .ok (.iload_n 1, 1) := by decide +kernel
theorem dX12_isReadyBy_13 : decode cX12_isReadyBy 13 = .ok (.iconst 0, 1) := by decide +kernel
theorem dX12_isReadyBy_14 : decode cX12_isReadyBy 14 = .ok (.iload_n 3, 1) := by decide +kernel
theorem dX12_isReadyBy_15 : decode cX12_isReadyBy 15 = .ok (.invokevirtual 122, 3) := by decide +kernel
theorem dX12_isReadyBy_18 : decode cX12_isReadyBy 18 = .ok (.aload_n 0, 1) := by decide +kernel
theorem dX12_isReadyBy_19 : decode cX12_isReadyBy 19 = .ok (.iload_n 1, 1) := by decide +kernel
theorem dX12_isReadyBy_20 : decode cX12_isReadyBy 20 = .ok (.invokevirtual 99, 3) := by decide +kernel
theorem dX12_isReadyBy_23 : decode cX12_isReadyBy 23 = .ok (.istore 4, 2) := by decide +kernel
theorem dX12_isReadyBy_25 : decode cX12_isReadyBy 25 = .ok (.aload_n 0, 1) := by decide +kernel
theorem dX12_isReadyBy_26 : decode cX12_isReadyBy 26 = .ok (.invokevirtual 125, 3) := by decide +kernel
theorem dX12_isReadyBy_29 : decode cX12_isReadyBy 29 = .ok (.iload 4, 2) := by decide +kernel
theorem dX12_isReadyBy_31 : decode cX12_isReadyBy 31 = .ok (.ireturn, 1) := by decide +kernel
theorem dX12_builds_0 : decode cX12_builds 0 = .ok (.aload_n 0, 1) := by decide +kernel
theorem dX12_builds_1 : decode cX12_builds 1 = .ok (.getfield 7, 3) := by decide +kernel
theorem dX12_builds_4 : decode cX12_builds 4 = .ok (.bipush 9, 2) := by decide +kernel
theorem dX12_builds_6 : decode cX12_builds 6 = .ok (.iaload, 1) := by decide +kernel
theorem dX12_builds_7 : decode cX12_builds 7 = .ok (.istore_n 2, 1) := by decide +kernel
theorem dX12_builds_8 : decode cX12_builds 8 = .ok (.aload_n 0, 1) := by decide +kernel
theorem dX12_builds_9 : decode cX12_builds 9 = .ok (.getfield 7, 3) := by decide +kernel
theorem dX12_builds_12 : decode cX12_builds 12 = .ok (.bipush 9, 2) := by decide +kernel
theorem dX12_builds_14 : decode cX12_builds 14 = .ok (.dup2, 1) := by decide +kernel
theorem dX12_builds_15 : decode cX12_builds 15 = .ok (.iaload, 1) := by decide +kernel
theorem dX12_builds_16 : decode cX12_builds 16 = .ok (.iconst 1, 1) := by decide +kernel
theorem dX12_builds_17 : decode cX12_builds 17 = .ok (.iadd, 1) := by decide +kernel
theorem dX12_builds_18 : decode cX12_builds 18 = .ok (.iastore, 1) := by decide +kernel
theorem dX12_builds_19 : decode cX12_builds 19 = .ok (.iconst 0, 1) := by decide +kernel
theorem dX12_builds_20 : decode cX12_builds 20 = .ok (.istore_n 3, 1) := by decide +kernel
theorem dX12_builds_21 : decode cX12_builds 21 = .ok (.iload_n 3, 1) := by decide +kernel
theorem dX12_builds_22 : decode cX12_builds 22 = .ok (.bipush 9, 2) := by decide +kernel
theorem dX12_builds_24 : decode cX12_builds 24 = .ok (.if_icmp .ge 16, 3) := by decide +kernel
theorem dX12_builds_27 : decode cX12_builds 27 = .ok (.aload_n 0, 1) := by decide +kernel
theorem dX12_builds_28 : decode cX12_builds 28 = .ok (.iload_n 2, 1) := by decide +kernel
theorem dX12_builds_29 : decode cX12_builds 29 = .ok (.iload_n 3, 1) := by decide +kernel
theorem dX12_builds_30 : decode cX12_builds 30 = .ok (.iconst 0, 1) := by decide +kernel
theorem dX12_builds_31 : decode cX12_builds 31 = .ok (.invokevirtual 102, 3) := by decide +kernel
theorem dX12_builds_34 : decode cX12_builds 34 = .ok (.iinc 3 1, 3) := by decide +kernel
theorem dX12_builds_37 : decode cX12_builds 37 = .ok (.goto (-16), 3) := by decide +kernel
theorem dX12_builds_40 : decode cX12_builds 40 = .ok (.aload_n 0, 1) := by decide +kernel
theorem dX12_builds_41 : decode cX12_builds 41 = .ok (.iload_n 2, 1) := by decide +kernel
theorem dX12_builds_42 : decode cX12_builds 42 = .ok (.iconst 0, 1) := by decide +kernel
theorem dX12_builds_43 : decode cX12_builds 43 = .ok (.iload_n 1, 1) := by decide +kernel
theorem dX12_builds_44 : decode cX12_builds 44 = .ok (.invokevirtual 102, 3) := by decide +kernel
theorem dX12_builds_47 : decode cX12_builds 47 = .ok (.iload_n 2, 1) := by decide +kernel
theorem dX12_builds_48 : decode cX12_builds 48 = .ok (.ireturn, 1) := by decide +kernel
theorem dX12_loads_0 : decode cX12_loads 0 = .ok (.aload_n 0, 1) := by decide +kernel
theorem dX12_loads_1 : decode cX12_loads 1 = .ok (.iload_n 1, 1) := by decide +kernel
theorem dX12_loads_2 : decode cX12_loads 2 = .ok (.iconst 3, 1) := by decide +kernel
theorem dX12_loads_3 : decode cX12_loads 3 = .ok (.iload_n 2, 1) := by decide +kernel
theorem dX12_loads_4 : decode cX12_loads 4 = .ok (.invokevirtual 102, 3) := by decide +kernel
theorem dX12_loads_7 : decode cX12_loads 7 = .ok (.aload_n 0, 1) := by decide +kernel
theorem dX12_loads_8 : decode cX12_loads 8 = .ok (.iload_n 1, 1) := by decide +kernel
theorem dX12_loads_9 : decode cX12_loads 9 = .ok (.iconst 4, 1) := by decide +kernel
theorem dX12_loads_10 : decode cX12_loads 10 = .ok (.iload_n 3, 1) := by decide +kernel
theorem dX12_loads_11 : decode cX12_loads 11 = .ok (.invokevirtual 102, 3) := by decide +kernel
theorem dX12_loads_14 : decode cX12_loads 14 = .ok (.aload_n 0, 1) := by decide +kernel
theorem dX12_loads_15 : decode cX12_loads 15 = .ok (.iload_n 1, 1) := by decide +kernel
theorem dX12_loads_16 : decode cX12_loads 16 = .ok (.iconst 5, 1) := by decide +kernel
theorem dX12_loads_17 : decode cX12_loads 17 = .ok (.iload_n 3, 1) := by decide +kernel
theorem dX12_loads_18 : decode cX12_loads 18 = .ok (.invokevirtual 102, 3) := by decide +kernel
theorem dX12_loads_21 : decode cX12_loads 21 = .ok (.aload_n 0, 1) := by decide +kernel
theorem dX12_loads_22 : decode cX12_loads 22 = .ok (.iload_n 1, 1) := by decide +kernel
theorem dX12_loads_23 : decode cX12_loads 23 = .ok (.bipush 6, 2) := by decide +kernel
theorem dX12_loads_25 : decode cX12_loads 25 = .ok (.iconst 0, 1) := by decide +kernel
theorem dX12_loads_26 : decode cX12_loads 26 = .ok (.invokevirtual 102, 3) := by decide +kernel
theorem dX12_loads_29 : decode cX12_loads 29 = .ok (.aload_n 0, 1) := by decide +kernel
theorem dX12_loads_30 : decode cX12_loads 30 = .ok (.iload_n 1, 1) := by decide +kernel
theorem dX12_loads_31 : decode cX12_loads 31 = .ok (.bipush 7, 2) := by decide +kernel
theorem dX12_loads_33 : decode cX12_loads 33 = .ok (.iconst 0, 1) := by decide +kernel
theorem dX12_loads_34 : decode cX12_loads 34 = .ok (.invokevirtual 102, 3) := by decide +kernel
theorem dX12_loads_37 : decode cX12_loads 37 = .ok (.aload_n 0, 1) := by decide +kernel
theorem dX12_loads_38 : decode cX12_loads 38 = .ok (.iload_n 1, 1) := by decide +kernel
theorem dX12_loads_39 : decode cX12_loads 39 = .ok (.bipush 8, 2) := by decide +kernel
theorem dX12_loads_41 : decode cX12_loads 41 = .ok (.sipush 2000, 3) := by decide +kernel
theorem dX12_loads_44 : decode cX12_loads 44 = .ok (.iload_n 2, 1) := by decide +kernel
theorem dX12_loads_45 : decode cX12_loads 45 = .ok (.imul, 1) := by decide +kernel
theorem dX12_loads_46 : decode cX12_loads 46 = .ok (.invokevirtual 102, 3) := by decide +kernel
theorem dX12_loads_49 : decode cX12_loads 49 = .ok (.aload_n 0, 1) := by decide +kernel
theorem dX12_loads_50 : decode cX12_loads 50 = .ok (.getfield 7, 3) := by decide +kernel
theorem dX12_loads_53 : decode cX12_loads 53 = .ok (.bipush 11, 2) := by decide +kernel
theorem dX12_loads_55 : decode cX12_loads 55 = .ok (.dup2, 1) := by decide +kernel
theorem dX12_loads_56 : decode cX12_loads 56 = .ok (.iaload, 1) := by decide +kernel
theorem dX12_loads_57 : decode cX12_loads 57 = .ok (.iload_n 2, 1) := by decide +kernel
theorem dX12_loads_58 : decode cX12_loads 58 = .ok (.iadd, 1) := by decide +kernel
theorem dX12_loads_59 : decode cX12_loads 59 = .ok (.iastore, 1) := by decide +kernel
theorem dX12_loads_60 : decode cX12_loads 60 = .ok (.aload_n 0, 1) := by decide +kernel
theorem dX12_loads_61 : decode cX12_loads 61 = .ok (.iload_n 1, 1) := by decide +kernel
theorem dX12_loads_62 : decode cX12_loads 62 = .ok (.invokevirtual 79, 3) := by decide +kernel
theorem dX12_loads_65 : decode cX12_loads 65 = .ok (.ireturn, 1) := by decide +kernel
theorem dX12_sets_0 : decode cX12_sets 0 = .ok (.aload_n 0, 1) := by decide +kernel
theorem dX12_sets_1 : decode cX12_sets 1 = .ok (.getfield 7, 3) := by decide +kernel
theorem dX12_sets_4 : decode cX12_sets 4 = .ok (.iload_n 1, 1) := by decide +kernel
theorem dX12_sets_5 : decode cX12_sets 5 = .ok (.iaload, 1) := by decide +kernel
theorem dX12_sets_6 : decode cX12_sets 6 = .ok (.istore_n 3, 1) := by decide +kernel
theorem dX12_sets_7 : decode cX12_sets 7 = .ok (.aload_n 0, 1) := by decide +kernel
theorem dX12_sets_8 : decode cX12_sets 8 = .ok (.getfield 7, 3) := by decide +kernel
theorem dX12_sets_11 : decode cX12_sets 11 = .ok (.iload_n 1, 1) := by decide +kernel
theorem dX12_sets_12 : decode cX12_sets 12 = .ok (.iload_n 2, 1) := by decide +kernel
theorem dX12_sets_13 : decode cX12_sets 13 = .ok (.iastore, 1) := by decide +kernel
theorem dX12_sets_14 : decode cX12_sets 14 = .ok (.iload_n 3, 1) := by decide +kernel
theorem dX12_sets_15 : decode cX12_sets 15 = .ok (.ireturn, 1) := by decide +kernel
theorem dX12_turnsRound_0 : decode cX12_turnsRound 0 = .ok (.aload_n 0, 1) := by decide +kernel
theorem dX12_turnsRound_1 : decode cX12_turnsRound 1 = .ok (.iload_n 1, 1) := by decide +kernel
theorem dX12_turnsRound_2 : decode cX12_turnsRound 2 = .ok (.iconst 2, 1) := by decide +kernel
theorem dX12_turnsRound_3 : decode cX12_turnsRound 3 = .ok (.iconst 1, 1) := by decide +kernel
theorem dX12_turnsRound_4 : decode cX12_turnsRound 4 = .ok (.aload_n 0, 1) := by decide +kernel
theorem dX12_turnsRound_5 : decode cX12_turnsRound 5 = .ok (.iload_n 1, 1) := by decide +kernel
theorem dX12_turnsRound_6 : decode cX12_turnsRound 6 = .ok (.iconst 2, 1) := by decide +kernel
theorem dX12_turnsRound_7 : decode cX12_turnsRound 7 = .ok (.invokevirtual 61, 3) := by decide +kernel
theorem dX12_turnsRound_10 : decode cX12_turnsRound 10 = .ok (.isub, 1) := by decide +kernel
theorem dX12_turnsRound_11 : decode cX12_turnsRound 11 = .ok (.invokevirtual 102, 3) := by decide +kernel
theorem dX12_turnsRound_14 : decode cX12_turnsRound 14 = .ok (.aload_n 0, 1) := by decide +kernel
theorem dX12_turnsRound_15 : decode cX12_turnsRound 15 = .ok (.iload_n 1, 1) := by decide +kernel
theorem dX12_turnsRound_16 : decode cX12_turnsRound 16 = .ok (.iconst 2, 1) := by decide +kernel
theorem dX12_turnsRound_17 : decode cX12_turnsRound 17 = .ok (.invokevirtual 61, 3) := by decide +kernel
theorem dX12_turnsRound_20 : decode cX12_turnsRound 20 = .ok (.ifCond .ne 7, 3) := by decide +kernel
theorem dX12_turnsRound_23 : decode cX12_turnsRound 23 = .ok (.iconst 1, 1) := by decide +kernel
theorem dX12_turnsRound_24 : decode cX12_turnsRound 24 = .ok (.goto 4, 3) := by decide +kernel
theorem dX12_turnsRound_27 : decode cX12_turnsRound 27 = .ok (.iconst 0, 1) := by decide +kernel
theorem dX12_turnsRound_28 : decode cX12_turnsRound 28 = .ok (.ireturn, 1) := by decide +kernel
theorem dX12_announces_0 : decode cX12_announces 0 = .ok (.aload_n 0, 1) := by decide +kernel
theorem dX12_announces_1 : decode cX12_announces 1 = .ok (.getfield 7, 3) := by decide +kernel
theorem dX12_announces_4 : decode cX12_announces 4 = .ok (.bipush 6, 2) := by decide +kernel
theorem dX12_announces_6 : decode cX12_announces 6 = .ok (.aload_n 0, 1) := by decide +kernel
theorem dX12_announces_7 : decode cX12_announces 7 = .ok (.getfield 7, 3) := by decide +kernel
theorem dX12_announces_10 : decode cX12_announces 10 = .ok (.iconst 5, 1) := by decide +kernel
theorem dX12_announces_11 : decode cX12_announces 11 = .ok (.iaload, 1) := by decide +kernel
theorem dX12_announces_12 : decode cX12_announces 12 = .ok (.iadd, 1) := by decide +kernel
theorem dX12_announces_13 : decode cX12_announces 13 = .ok (.iload_n 1, 1) := by decide +kernel
theorem dX12_announces_14 : decode cX12_announces 14 = .ok (.iastore, 1) := by decide +kernel
theorem dX12_announces_15 : decode cX12_announces 15 = .ok (.aload_n 0, 1) := by decide +kernel
theorem dX12_announces_16 : decode cX12_announces 16 = .ok (.getfield 7, 3) := by decide +kernel
theorem dX12_announces_19 : decode cX12_announces 19 = .ok (.iconst 5, 1) := by decide +kernel
theorem dX12_announces_20 : decode cX12_announces 20 = .ok (.dup2, 1) := by decide +kernel
theorem dX12_announces_21 : decode cX12_announces 21 = .ok (.iaload, 1) := by decide +kernel
theorem dX12_announces_22 : decode cX12_announces 22 = .ok (.iconst 1, 1) := by decide +kernel
theorem dX12_announces_23 : decode cX12_announces 23 = .ok (.iadd, 1) := by decide +kernel
theorem dX12_announces_24 : decode cX12_announces 24 = .ok (.iastore, 1) := by decide +kernel
theorem dX12_announces_25 : decode cX12_announces 25 = .ok (.aload_n 0, 1) := by decide +kernel
theorem dX12_announces_26 : decode cX12_announces 26 = .ok (.getfield 7, 3) := by decide +kernel
theorem dX12_announces_29 : decode cX12_announces 29 = .ok (.iconst 5, 1) := by decide +kernel
theorem dX12_announces_30 : decode cX12_announces 30 = .ok (.iaload, 1) := by decide +kernel
theorem dX12_announces_31 : decode cX12_announces 31 = .ok (.ireturn, 1) := by decide +kernel
theorem dX12_aims_0 : decode cX12_aims 0 = .ok (.aload_n 0, 1) := by decide +kernel
theorem dX12_aims_1 : decode cX12_aims 1 = .ok (.getfield 7, 3) := by decide +kernel
theorem dX12_aims_4 : decode cX12_aims 4 = .ok (.iconst 3, 1) := by decide +kernel
theorem dX12_aims_5 : decode cX12_aims 5 = .ok (.iload_n 1, 1) := by decide +kernel
theorem dX12_aims_6 : decode cX12_aims 6 = .ok (.iastore, 1) := by decide +kernel
theorem dX12_aims_7 : decode cX12_aims 7 = .ok (.aload_n 0, 1) := by decide +kernel
theorem dX12_aims_8 : decode cX12_aims 8 = .ok (.getfield 7, 3) := by decide +kernel
theorem dX12_aims_11 : decode cX12_aims 11 = .ok (.iconst 4, 1) := by decide +kernel
theorem dX12_aims_12 : decode cX12_aims 12 = .ok (.iload_n 2, 1) := by decide +kernel
theorem dX12_aims_13 : decode cX12_aims 13 = .ok (.iastore, 1) := by decide +kernel
theorem dX12_aims_14 : decode cX12_aims 14 = .ok (.aload_n 0, 1) := by decide +kernel
theorem dX12_aims_15 : decode cX12_aims 15 = .ok (.invokevirtual 128, 3) := by decide +kernel
theorem dX12_aims_18 : decode cX12_aims 18 = .ok (.ireturn, 1) := by decide +kernel
theorem dX12_turns_0 : decode cX12_turns 0 = .ok (.aload_n 0, 1) := by decide +kernel
theorem dX12_turns_1 : decode cX12_turns 1 = .ok (.iload_n 1, 1) := by decide +kernel
theorem dX12_turns_2 : decode cX12_turns 2 = .ok (.iconst 4, 1) := by decide +kernel
theorem dX12_turns_3 : decode cX12_turns 3 = .ok (.invokevirtual 61, 3) := by decide +kernel
theorem dX12_turns_6 : decode cX12_turns 6 = .ok (.aload_n 0, 1) := by decide +kernel
theorem dX12_turns_7 : decode cX12_turns 7 = .ok (.iload_n 1, 1) := by decide +kernel
theorem dX12_turns_8 : decode cX12_turns 8 = .ok (.iconst 5, 1) := by decide +kernel
theorem dX12_turns_9 : decode cX12_turns 9 = .ok (.invokevirtual 61, 3) := by decide +kernel
theorem dX12_turns_12 : decode cX12_turns 12 = .ok (.iadd, 1) := by decide +kernel
theorem dX12_turns_13 : decode cX12_turns 13 = .ok (.istore_n 2, 1) := by decide +kernel
theorem dX12_turns_14 : decode cX12_turns 14 = .ok (.aload_n 0, 1) := by decide +kernel
theorem dX12_turns_15 : decode cX12_turns 15 = .ok (.iload_n 1, 1) := by decide +kernel
theorem dX12_turns_16 : decode cX12_turns 16 = .ok (.iconst 4, 1) := by decide +kernel
theorem dX12_turns_17 : decode cX12_turns 17 = .ok (.iload_n 2, 1) := by decide +kernel
theorem dX12_turns_18 : decode cX12_turns 18 = .ok (.iconst 2, 1) := by decide +kernel
theorem dX12_turns_19 : decode cX12_turns 19 = .ok (.idiv, 1) := by decide +kernel
theorem dX12_turns_20 : decode cX12_turns 20 = .ok (.invokevirtual 102, 3) := by decide +kernel
theorem dX12_turns_23 : decode cX12_turns 23 = .ok (.aload_n 0, 1) := by decide +kernel
theorem dX12_turns_24 : decode cX12_turns 24 = .ok (.iload_n 1, 1) := by decide +kernel
theorem dX12_turns_25 : decode cX12_turns 25 = .ok (.iconst 5, 1) := by decide +kernel
theorem dX12_turns_26 : decode cX12_turns 26 = .ok (.iload_n 2, 1) := by decide +kernel
theorem dX12_turns_27 : decode cX12_turns 27 = .ok (.iload_n 2, 1) := by decide +kernel
theorem dX12_turns_28 : decode cX12_turns 28 = .ok (.iconst 2, 1) := by decide +kernel
theorem dX12_turns_29 : decode cX12_turns 29 = .ok (.idiv, 1) := by decide +kernel
theorem dX12_turns_30 : decode cX12_turns 30 = .ok (.isub, 1) := by decide +kernel
theorem dX12_turns_31 : decode cX12_turns 31 = .ok (.invokevirtual 102, 3) := by decide +kernel
theorem dX12_turns_34 : decode cX12_turns 34 = .ok (.aload_n 0, 1) := by decide +kernel
theorem dX12_turns_35 : decode cX12_turns 35 = .ok (.iload_n 1, 1) := by decide +kernel
theorem dX12_turns_36 : decode cX12_turns 36 = .ok (.bipush 7, 2) := by decide +kernel
theorem dX12_turns_38 : decode cX12_turns 38 = .ok (.aload_n 0, 1) := by decide +kernel
theorem dX12_turns_39 : decode cX12_turns 39 = .ok (.iload_n 1, 1) := by decide +kernel
theorem dX12_turns_40 : decode cX12_turns 40 = .ok (.bipush 7, 2) := by decide +kernel
theorem dX12_turns_42 : decode cX12_turns 42 = .ok (.invokevirtual 61, 3) := by decide +kernel
theorem dX12_turns_45 : decode cX12_turns 45 = .ok (.iconst 2, 1) := by decide +kernel
theorem dX12_turns_46 : decode cX12_turns 46 = .ok (.iadd, 1) := by decide +kernel
theorem dX12_turns_47 : decode cX12_turns 47 = .ok (.invokevirtual 102, 3) := by decide +kernel
theorem dX12_turns_50 : decode cX12_turns 50 = .ok (.aload_n 0, 1) := by decide +kernel
theorem dX12_turns_51 : decode cX12_turns 51 = .ok (.iload_n 1, 1) := by decide +kernel
theorem dX12_turns_52 : decode cX12_turns 52 = .ok (.iconst 5, 1) := by decide +kernel
theorem dX12_turns_53 : decode cX12_turns 53 = .ok (.invokevirtual 61, 3) := by decide +kernel
theorem dX12_turns_56 : decode cX12_turns 56 = .ok (.ireturn, 1) := by decide +kernel
theorem dX12_empties_0 : decode cX12_empties 0 = .ok (.aload_n 0, 1) := by decide +kernel
theorem dX12_empties_1 : decode cX12_empties 1 = .ok (.iload_n 1, 1) := by decide +kernel
theorem dX12_empties_2 : decode cX12_empties 2 = .ok (.iconst 3, 1) := by decide +kernel
theorem dX12_empties_3 : decode cX12_empties 3 = .ok (.invokevirtual 61, 3) := by decide +kernel
theorem dX12_empties_6 : decode cX12_empties 6 = .ok (.istore_n 3, 1) := by decide +kernel
theorem dX12_empties_7 : decode cX12_empties 7 = .ok (.aload_n 0, 1) := by decide +kernel
theorem dX12_empties_8 : decode cX12_empties 8 = .ok (.getfield 7, 3) := by decide +kernel
theorem dX12_empties_11 : decode cX12_empties 11 = .ok (.iload_n 2, 1) := by decide +kernel
theorem dX12_empties_12 : decode cX12_empties 12 = .ok (.dup2, 1) := by decide +kernel
theorem dX12_empties_13 : decode cX12_empties 13 = .ok (.iaload, 1) := by decide +kernel
theorem dX12_empties_14 : decode cX12_empties 14 = .ok (.iload_n 3, 1) := by decide +kernel
theorem dX12_empties_15 : decode cX12_empties 15 = .ok (.iadd, 1) := by decide +kernel
theorem dX12_empties_16 : decode cX12_empties 16 = .ok (.iastore, 1) := by decide +kernel
theorem dX12_empties_17 : decode cX12_empties 17 = .ok (.aload_n 0, 1) := by decide +kernel
theorem dX12_empties_18 : decode cX12_empties 18 = .ok (.getfield 7, 3) := by decide +kernel
theorem dX12_empties_21 : decode cX12_empties 21 = .ok (.bipush 16, 2) := by decide +kernel
theorem dX12_empties_23 : decode cX12_empties 23 = .ok (.dup2, 1) := by decide +kernel
theorem dX12_empties_24 : decode cX12_empties 24 = .ok (.iaload, 1) := by decide +kernel
theorem dX12_empties_25 : decode cX12_empties 25 = .ok (.aload_n 0, 1) := by decide +kernel
theorem dX12_empties_26 : decode cX12_empties 26 = .ok (.iload_n 1, 1) := by decide +kernel
theorem dX12_empties_27 : decode cX12_empties 27 = .ok (.bipush 8, 2) := by decide +kernel
theorem dX12_empties_29 : decode cX12_empties 29 = .ok (.invokevirtual 61, 3) := by decide +kernel
theorem dX12_empties_32 : decode cX12_empties 32 = .ok (.iadd, 1) := by decide +kernel
theorem dX12_empties_33 : decode cX12_empties 33 = .ok (.iastore, 1) := by decide +kernel
theorem dX12_empties_34 : decode cX12_empties 34 = .ok (.iconst 3, 1) := by decide +kernel
theorem dX12_empties_35 : decode cX12_empties 35 = .ok (.istore 4, 2) := by decide +kernel
theorem dX12_empties_37 : decode cX12_empties 37 = .ok (.iload 4, 2) := by decide +kernel
theorem dX12_empties_39 : decode cX12_empties 39 = .ok (.bipush 8, 2) := by decide +kernel
theorem dX12_empties_41 : decode cX12_empties 41 = .ok (.if_icmp .gt 17, 3) := by decide +kernel
theorem dX12_empties_44 : decode cX12_empties 44 = .ok (.aload_n 0, 1) := by decide +kernel
theorem dX12_empties_45 : decode cX12_empties 45 = .ok (.iload_n 1, 1) := by decide +kernel
theorem dX12_empties_46 : decode cX12_empties 46 = .ok (.iload 4, 2) := by decide +kernel
theorem dX12_empties_48 : decode cX12_empties 48 = .ok (.iconst 0, 1) := by decide +kernel
theorem dX12_empties_49 : decode cX12_empties 49 = .ok (.invokevirtual 102, 3) := by decide +kernel
theorem dX12_empties_52 : decode cX12_empties 52 = .ok (.iinc 4 1, 3) := by decide +kernel
theorem dX12_empties_55 : decode cX12_empties 55 = .ok (.goto (-18), 3) := by decide +kernel
theorem dX12_empties_58 : decode cX12_empties 58 = .ok (.iload_n 3, 1) := by decide +kernel
theorem dX12_empties_59 : decode cX12_empties 59 = .ok (.ireturn, 1) := by decide +kernel
theorem dX12_sends_0 : decode cX12_sends 0 = .ok (.aload_n 0, 1) := by decide +kernel
theorem dX12_sends_1 : decode cX12_sends 1 = .ok (.iload_n 1, 1) := by decide +kernel
theorem dX12_sends_2 : decode cX12_sends 2 = .ok (.iconst 3, 1) := by decide +kernel
theorem dX12_sends_3 : decode cX12_sends 3 = .ok (.invokevirtual 61, 3) := by decide +kernel
theorem dX12_sends_6 : decode cX12_sends 6 = .ok (.aload_n 0, 1) := by decide +kernel
theorem dX12_sends_7 : decode cX12_sends 7 = .ok (.iload_n 1, 1) := by decide +kernel
theorem dX12_sends_8 : decode cX12_sends 8 = .ok (.invokevirtual 132, 3) := by decide +kernel
theorem dX12_sends_11 : decode cX12_sends 11 = .ok (.imul, 1) := by decide +kernel
theorem dX12_sends_12 : decode cX12_sends 12 = .ok (.bipush 100, 2) := by decide +kernel
theorem dX12_sends_14 : decode cX12_sends 14 = .ok (.idiv, 1) := by decide +kernel
theorem dX12_sends_15 : decode cX12_sends 15 = .ok (.istore_n 2, 1) := by decide +kernel
theorem dX12_sends_16 : decode cX12_sends 16 = .ok (.aload_n 0, 1) := by decide +kernel
theorem dX12_sends_17 : decode cX12_sends 17 = .ok (.getfield 7, 3) := by decide +kernel
theorem dX12_sends_20 : decode cX12_sends 20 = .ok (.bipush 14, 2) := by decide +kernel
theorem dX12_sends_22 : decode cX12_sends 22 = .ok (.dup2, 1) := by decide +kernel
theorem dX12_sends_23 : decode cX12_sends 23 = .ok (.iaload, 1) := by decide +kernel
theorem dX12_sends_24 : decode cX12_sends 24 = .ok (.iload_n 2, 1) := by decide +kernel
theorem dX12_sends_25 : decode cX12_sends 25 = .ok (.iadd, 1) := by decide +kernel
theorem dX12_sends_26 : decode cX12_sends 26 = .ok (.iastore, 1) := by decide +kernel
theorem dX12_sends_27 : decode cX12_sends 27 = .ok (.aload_n 0, 1) := by decide +kernel
theorem dX12_sends_28 : decode cX12_sends 28 = .ok (.iload_n 1, 1) := by decide +kernel
theorem dX12_sends_29 : decode cX12_sends 29 = .ok (.bipush 12, 2) := by decide +kernel
theorem dX12_sends_31 : decode cX12_sends 31 = .ok (.invokevirtual 135, 3) := by decide +kernel
theorem dX12_sends_34 : decode cX12_sends 34 = .ok (.pop, 1) := by decide +kernel
theorem dX12_sends_35 : decode cX12_sends 35 = .ok (.iload_n 2, 1) := by decide +kernel
theorem dX12_sends_36 : decode cX12_sends 36 = .ok (.ireturn, 1) := by decide +kernel
theorem dX12_puts_0 : decode cX12_puts 0 = .ok (.bipush 89, 2) := by decide +kernel
theorem dX12_puts_2 : decode cX12_puts 2 = .ok (.iconst 3, 1) := by decide +kernel
theorem dX12_puts_3 : decode cX12_puts 3 = .ok (.aload_n 0, 1) := by decide +kernel
theorem dX12_puts_4 : decode cX12_puts 4 = .ok (.getfield 7, 3) := by decide +kernel
theorem dX12_puts_7 : decode cX12_puts 7 = .ok (.bipush 10, 2) := by decide +kernel
theorem dX12_puts_9 : decode cX12_puts 9 = .ok (.iaload, 1) := by decide +kernel
theorem dX12_puts_10 : decode cX12_puts 10 = .ok (.imul, 1) := by decide +kernel
theorem dX12_puts_11 : decode cX12_puts 11 = .ok (.iadd, 1) := by decide +kernel
theorem dX12_puts_12 : decode cX12_puts 12 = .ok (.istore 4, 2) := by decide +kernel
theorem dX12_puts_14 : decode cX12_puts 14 = .ok (.aload_n 0, 1) := by decide +kernel
theorem dX12_puts_15 : decode cX12_puts 15 = .ok (.getfield 7, 3) := by decide +kernel
theorem dX12_puts_18 : decode cX12_puts 18 = .ok (.iload 4, 2) := by decide +kernel
theorem dX12_puts_20 : decode cX12_puts 20 = .ok (.iconst 0, 1) := by decide +kernel
theorem dX12_puts_21 : decode cX12_puts 21 = .ok (.iadd, 1) := by decide +kernel
theorem dX12_puts_22 : decode cX12_puts 22 = .ok (.iload_n 1, 1) := by decide +kernel
theorem dX12_puts_23 : decode cX12_puts 23 = .ok (.iastore, 1) := by decide +kernel
theorem dX12_puts_24 : decode cX12_puts 24 = .ok (.aload_n 0, 1) := by decide +kernel
theorem dX12_puts_25 : decode cX12_puts 25 = .ok (.getfield 7, 3) := by decide +kernel
theorem dX12_puts_28 : decode cX12_puts 28 = .ok (.iload 4, 2) := by decide +kernel
theorem dX12_puts_30 : decode cX12_puts 30 = .ok (.iconst 1, 1) := by decide +kernel
theorem dX12_puts_31 : decode cX12_puts 31 = .ok (.iadd, 1) := by decide +kernel
theorem dX12_puts_32 : decode cX12_puts 32 = .ok (.iload_n 2, 1) := by decide +kernel
theorem dX12_puts_33 : decode cX12_puts 33 = .ok (.iastore, 1) := by decide +kernel
theorem dX12_puts_34 : decode cX12_puts 34 = .ok (.aload_n 0, 1) := by decide +kernel
theorem dX12_puts_35 : decode cX12_puts 35 = .ok (.getfield 7, 3) := by decide +kernel
theorem dX12_puts_38 : decode cX12_puts 38 = .ok (.iload 4, 2) := by decide +kernel
theorem dX12_puts_40 : decode cX12_puts 40 = .ok (.iconst 2, 1) := by decide +kernel
theorem dX12_puts_41 : decode cX12_puts 41 = .ok (.iadd, 1) := by decide +kernel
theorem dX12_puts_42 : decode cX12_puts 42 = .ok (.iload_n 3, 1) := by decide +kernel
theorem dX12_puts_43 : decode cX12_puts 43 = .ok (.iastore, 1) := by decide +kernel
theorem dX12_puts_44 : decode cX12_puts 44 = .ok (.aload_n 0, 1) := by decide +kernel
theorem dX12_puts_45 : decode cX12_puts 45 = .ok (.getfield 7, 3) := by decide +kernel
theorem dX12_puts_48 : decode cX12_puts 48 = .ok (.bipush 10, 2) := by decide +kernel
theorem dX12_puts_50 : decode cX12_puts 50 = .ok (.dup2, 1) := by decide +kernel
theorem dX12_puts_51 : decode cX12_puts 51 = .ok (.iaload, 1) := by decide +kernel
theorem dX12_puts_52 : decode cX12_puts 52 = .ok (.iconst 1, 1) := by decide +kernel
theorem dX12_puts_53 : decode cX12_puts 53 = .ok (.iadd, 1) := by decide +kernel
theorem dX12_puts_54 : decode cX12_puts 54 = .ok (.iastore, 1) := by decide +kernel
theorem dX12_puts_55 : decode cX12_puts 55 = .ok (.aload_n 0, 1) := by decide +kernel
theorem dX12_puts_56 : decode cX12_puts 56 = .ok (.getfield 7, 3) := by decide +kernel
theorem dX12_puts_59 : decode cX12_puts 59 = .ok (.bipush 10, 2) := by decide +kernel
theorem dX12_puts_61 : decode cX12_puts 61 = .ok (.iaload, 1) := by decide +kernel
theorem dX12_puts_62 : decode cX12_puts 62 = .ok (.iconst 1, 1) := by decide +kernel
theorem dX12_puts_63 : decode cX12_puts 63 = .ok (.isub, 1) := by decide +kernel
theorem dX12_puts_64 : decode cX12_puts 64 = .ok (.ireturn, 1) := by decide +kernel
theorem dX12_tell_0 : decode cX12_tell 0 = .ok (.iconst 0, 1) := by decide +kernel
theorem dX12_tell_1 : decode cX12_tell 1 = .ok (.istore_n 2, 1) := by decide +kernel
theorem dX12_tell_2 : decode cX12_tell 2 = .ok (.iload_n 2, 1) := by decide +kernel
theorem dX12_tell_3 : decode cX12_tell 3 = .ok (.aload_n 1, 1) := by decide +kernel
theorem dX12_tell_4 : decode cX12_tell 4 = .ok (.invokevirtual 138, 3) := by decide +kernel
theorem dX12_tell_7 : decode cX12_tell 7 = .ok (.if_icmp .ge 33, 3) := by decide +kernel
theorem dX12_tell_10 : decode cX12_tell 10 = .ok (.aload_n 0, 1) := by decide +kernel
theorem dX12_tell_11 : decode cX12_tell 11 = .ok (.getfield 28, 3) := by decide +kernel
theorem dX12_tell_14 : decode cX12_tell 14 = .ok (.aload_n 0, 1) := by decide +kernel
theorem dX12_tell_15 : decode cX12_tell 15 = .ok (.getfield 143, 3) := by decide +kernel
theorem dX12_tell_18 : decode cX12_tell 18 = .ok (.aload_n 1, 1) := by decide +kernel
theorem dX12_tell_19 : decode cX12_tell 19 = .ok (.iload_n 2, 1) := by decide +kernel
theorem dX12_tell_20 : decode cX12_tell 20 = .ok (.invokevirtual 146, 3) := by decide +kernel
theorem dX12_tell_23 : decode cX12_tell 23 = .ok (.iastore, 1) := by decide +kernel
theorem dX12_tell_24 : decode cX12_tell 24 = .ok (.aload_n 0, 1) := by decide +kernel
theorem dX12_tell_25 : decode cX12_tell 25 = .ok (.dup, 1) := by decide +kernel
theorem dX12_tell_26 : decode cX12_tell 26 = .ok (.getfield 143, 3) := by decide +kernel
theorem dX12_tell_29 : decode cX12_tell 29 = .ok (.iconst 1, 1) := by decide +kernel
theorem dX12_tell_30 : decode cX12_tell 30 = .ok (.iadd, 1) := by decide +kernel
theorem dX12_tell_31 : decode cX12_tell 31 = .ok (.putfield 143, 3) := by decide +kernel
theorem dX12_tell_34 : decode cX12_tell 34 = .ok (.iinc 2 1, 3) := by decide +kernel
theorem dX12_tell_37 : decode cX12_tell 37 = .ok (.goto (-35), 3) := by decide +kernel
theorem dX12_tell_40 : decode cX12_tell 40 = .ok (.return_, 1) := by decide +kernel
theorem dX12_sortOf_0 : decode cX12_sortOf 0 = .ok (.iload_n 0, 1) := by decide +kernel
theorem dX12_sortOf_1 : decode cX12_sortOf 1 = .ok (.bipush 59, 2) := by decide +kernel
theorem dX12_sortOf_3 : decode cX12_sortOf 3 = .ok (.if_icmp .ne 7, 3) := by decide +kernel
theorem dX12_sortOf_6 : decode cX12_sortOf 6 = .ok (.iconst 1, 1) := by decide +kernel
theorem dX12_sortOf_7 : decode cX12_sortOf 7 = .ok (.goto 57, 3) := by decide +kernel
theorem dX12_sortOf_10 : decode cX12_sortOf 10 = .ok (.iload_n 0, 1) := by decide +kernel
theorem dX12_sortOf_11 : decode cX12_sortOf 11 = .ok (.bipush 97, 2) := by decide +kernel
theorem dX12_sortOf_13 : decode cX12_sortOf 13 = .ok (.if_icmp .lt 13, 3) := by decide +kernel
theorem dX12_sortOf_16 : decode cX12_sortOf 16 = .ok (.iload_n 0, 1) := by decide +kernel
theorem dX12_sortOf_17 : decode cX12_sortOf 17 = .ok (.bipush 122, 2) := by decide +kernel
theorem dX12_sortOf_19 : decode cX12_sortOf 19 = .ok (.if_icmp .gt 7, 3) := by decide +kernel
theorem dX12_sortOf_22 : decode cX12_sortOf 22 = .ok (.iconst 2, 1) := by decide +kernel
theorem dX12_sortOf_23 : decode cX12_sortOf 23 = .ok (.goto 41, 3) := by decide +kernel
theorem dX12_sortOf_26 : decode cX12_sortOf 26 = .ok (.iload_n 0, 1) := by decide +kernel
theorem dX12_sortOf_27 : decode cX12_sortOf 27 = .ok (.bipush 48, 2) := by decide +kernel
theorem dX12_sortOf_29 : decode cX12_sortOf 29 = .ok (.if_icmp .lt 13, 3) := by decide +kernel
theorem dX12_sortOf_32 : decode cX12_sortOf 32 = .ok (.iload_n 0, 1) := by decide +kernel
theorem dX12_sortOf_33 : decode cX12_sortOf 33 = .ok (.bipush 57, 2) := by decide +kernel
theorem dX12_sortOf_35 : decode cX12_sortOf 35 = .ok (.if_icmp .gt 7, 3) := by decide +kernel
theorem dX12_sortOf_38 : decode cX12_sortOf 38 = .ok (.iconst 3, 1) := by decide +kernel
theorem dX12_sortOf_39 : decode cX12_sortOf 39 = .ok (.goto 25, 3) := by decide +kernel
theorem dX12_sortOf_42 : decode cX12_sortOf 42 = .ok (.iload_n 0, 1) := by decide +kernel
theorem dX12_sortOf_43 : decode cX12_sortOf 43 = .ok (.bipush 40, 2) := by decide +kernel
theorem dX12_sortOf_45 : decode cX12_sortOf 45 = .ok (.if_icmp .ne 7, 3) := by decide +kernel
theorem dX12_sortOf_48 : decode cX12_sortOf 48 = .ok (.iconst 4, 1) := by decide +kernel
theorem dX12_sortOf_49 : decode cX12_sortOf 49 = .ok (.goto 15, 3) := by decide +kernel
theorem dX12_sortOf_52 : decode cX12_sortOf 52 = .ok (.iload_n 0, 1) := by decide +kernel
theorem dX12_sortOf_53 : decode cX12_sortOf 53 = .ok (.bipush 41, 2) := by decide +kernel
theorem dX12_sortOf_55 : decode cX12_sortOf 55 = .ok (.if_icmp .ne 7, 3) := by decide +kernel
theorem dX12_sortOf_58 : decode cX12_sortOf 58 = .ok (.iconst 5, 1) := by decide +kernel
theorem dX12_sortOf_59 : decode cX12_sortOf 59 = .ok (.goto 5, 3) := by decide +kernel
theorem dX12_sortOf_62 : decode cX12_sortOf 62 = .ok (.bipush 6, 2) := by decide +kernel
theorem dX12_sortOf_64 : decode cX12_sortOf 64 = .ok (.ireturn, 1) := by decide +kernel
theorem dX12_next_0 : decode cX12_next 0 = .ok (.aload_n 0, 1) := by decide +kernel
theorem dX12_next_1 : decode cX12_next 1 = .ok (.aload_n 0, 1) := by decide +kernel
theorem dX12_next_2 : decode cX12_next 2 = .ok (.getfield 150, 3) := by decide +kernel
theorem dX12_next_5 : decode cX12_next 5 = .ok (.putfield 153, 3) := by decide +kernel
theorem dX12_next_8 : decode cX12_next 8 = .ok (.aload_n 0, 1) := by decide +kernel
theorem dX12_next_9 : decode cX12_next 9 = .ok (.getfield 153, 3) := by decide +kernel
theorem dX12_next_12 : decode cX12_next 12 = .ok (.aload_n 0, 1) := by decide +kernel
theorem dX12_next_13 : decode cX12_next 13 = .ok (.getfield 143, 3) := by decide +kernel
theorem dX12_next_16 : decode cX12_next 16 = .ok (.if_icmp .ge 44, 3) := by decide +kernel
theorem dX12_next_19 : decode cX12_next 19 = .ok (.aload_n 0, 1) := by decide +kernel
theorem dX12_next_20 : decode cX12_next 20 = .ok (.getfield 28, 3) := by decide +kernel
theorem dX12_next_23 : decode cX12_next 23 = .ok (.aload_n 0, 1) := by decide +kernel
theorem dX12_next_24 : decode cX12_next 24 = .ok (.getfield 153, 3) := by decide +kernel
theorem dX12_next_27 : decode cX12_next 27 = .ok (.iaload, 1) := by decide +kernel
theorem dX12_next_28 : decode cX12_next 28 = .ok (.bipush 32, 2) := by decide +kernel
theorem dX12_next_30 : decode cX12_next 30 = .ok (.if_icmp .eq 17, 3) := by decide +kernel
theorem dX12_next_33 : decode cX12_next 33 = .ok (.aload_n 0, 1) := by decide +kernel
theorem dX12_next_34 : decode cX12_next 34 = .ok (.getfield 28, 3) := by decide +kernel
theorem dX12_next_37 : decode cX12_next 37 = .ok (.aload_n 0, 1) := by decide +kernel
theorem dX12_next_38 : decode cX12_next 38 = .ok (.getfield 153, 3) := by decide +kernel
theorem dX12_next_41 : decode cX12_next 41 = .ok (.iaload, 1) := by decide +kernel
theorem dX12_next_42 : decode cX12_next 42 = .ok (.bipush 10, 2) := by decide +kernel
theorem dX12_next_44 : decode cX12_next 44 = .ok (.if_icmp .ne 16, 3) := by decide +kernel
theorem dX12_next_47 : decode cX12_next 47 = .ok (.aload_n 0, 1) := by decide +kernel
theorem dX12_next_48 : decode cX12_next 48 = .ok (.dup, 1) := by decide +kernel
theorem dX12_next_49 : decode cX12_next 49 = .ok (.getfield 153, 3) := by decide +kernel
theorem dX12_next_52 : decode cX12_next 52 = .ok (.iconst 1, 1) := by decide +kernel
theorem dX12_next_53 : decode cX12_next 53 = .ok (.iadd, 1) := by decide +kernel
theorem dX12_next_54 : decode cX12_next 54 = .ok (.putfield 153, 3) := by decide +kernel
theorem dX12_next_57 : decode cX12_next 57 = .ok (.goto (-49), 3) := by decide +kernel
theorem dX12_next_60 : decode cX12_next 60 = .ok (.aload_n 0, 1) := by decide +kernel
theorem dX12_next_61 : decode cX12_next 61 = .ok (.aload_n 0, 1) := by decide +kernel
theorem dX12_next_62 : decode cX12_next 62 = .ok (.getfield 153, 3) := by decide +kernel
theorem dX12_next_65 : decode cX12_next 65 = .ok (.putfield 150, 3) := by decide +kernel
theorem dX12_next_68 : decode cX12_next 68 = .ok (.aload_n 0, 1) := by decide +kernel
theorem dX12_next_69 : decode cX12_next 69 = .ok (.getfield 153, 3) := by decide +kernel
theorem dX12_next_72 : decode cX12_next 72 = .ok (.aload_n 0, 1) := by decide +kernel
theorem dX12_next_73 : decode cX12_next 73 = .ok (.getfield 143, 3) := by decide +kernel
theorem dX12_next_76 : decode cX12_next 76 = .ok (.if_icmp .ne 9, 3) := by decide +kernel
theorem dX12_next_79 : decode cX12_next 79 = .ok (.aload_n 0, 1) := by decide +kernel
theorem dX12_next_80 : decode cX12_next 80 = .ok (.iconst 0, 1) := by decide +kernel
theorem dX12_next_81 : decode cX12_next 81 = .ok (.putfield 156, 3) := by decide +kernel
theorem dX12_next_84 : decode cX12_next 84 = .ok (.return_, 1) := by decide +kernel
theorem dX12_next_85 : decode cX12_next 85 = .ok (.aload_n 0, 1) := by decide +kernel
theorem dX12_next_86 : decode cX12_next 86 = .ok (.aload_n 0, 1) := by decide +kernel
theorem dX12_next_87 : decode cX12_next 87 = .ok (.getfield 28, 3) := by decide +kernel
theorem dX12_next_90 : decode cX12_next 90 = .ok (.aload_n 0, 1) := by decide +kernel
theorem dX12_next_91 : decode cX12_next 91 = .ok (.getfield 153, 3) := by decide +kernel
theorem dX12_next_94 : decode cX12_next 94 = .ok (.iaload, 1) := by decide +kernel
theorem dX12_next_95 : decode cX12_next 95 = .ok (.invokestatic 159, 3) := by decide +kernel
theorem dX12_next_98 : decode cX12_next 98 = .ok (.putfield 156, 3) := by decide +kernel
theorem dX12_next_101 : decode cX12_next 101 = .ok (.aload_n 0, 1) := by decide +kernel
theorem dX12_next_102 : decode cX12_next 102 = .ok (.dup, 1) := by decide +kernel
theorem dX12_next_103 : decode cX12_next 103 = .ok (.getfield 150, 3) := by decide +kernel
theorem dX12_next_106 : decode cX12_next 106 = .ok (.iconst 1, 1) := by decide +kernel
theorem dX12_next_107 : decode cX12_next 107 = .ok (.iadd, 1) := by decide +kernel
theorem dX12_next_108 : decode cX12_next 108 = .ok (.putfield 150, 3) := by decide +kernel
theorem dX12_next_111 : decode cX12_next 111 = .ok (.aload_n 0, 1) := by decide +kernel
theorem dX12_next_112 : decode cX12_next 112 = .ok (.getfield 156, 3) := by decide +kernel
theorem dX12_next_115 : decode cX12_next 115 = .ok (.iconst 2, 1) := by decide +kernel
theorem dX12_next_116 : decode cX12_next 116 = .ok (.if_icmp .eq 11, 3) := by decide +kernel
theorem dX12_next_119 : decode cX12_next 119 = .ok (.aload_n 0, 1) := by decide +kernel
theorem dX12_next_120 : decode cX12_next 120 = .ok (.getfield 156, 3) := by decide +kernel
theorem dX12_next_123 : decode cX12_next 123 = .ok (.iconst 3, 1) := by decide +kernel
theorem dX12_next_124 : decode cX12_next 124 = .ok (.if_icmp .ne 46, 3) := by decide +kernel
theorem dX12_next_127 : decode cX12_next 127 = .ok (.aload_n 0, 1) := by decide +kernel
theorem dX12_next_128 : decode cX12_next 128 = .ok (.getfield 150, 3) := by decide +kernel
theorem dX12_next_131 : decode cX12_next 131 = .ok (.aload_n 0, 1) := by decide +kernel
theorem dX12_next_132 : decode cX12_next 132 = .ok (.getfield 143, 3) := by decide +kernel
theorem dX12_next_135 : decode cX12_next 135 = .ok (.if_icmp .ge 35, 3) := by decide +kernel
theorem dX12_next_138 : decode cX12_next 138 = .ok (.aload_n 0, 1) := by decide +kernel
theorem dX12_next_139 : decode cX12_next 139 = .ok (.getfield 28, 3) := by decide +kernel
theorem dX12_next_142 : decode cX12_next 142 = .ok (.aload_n 0, 1) := by decide +kernel
theorem dX12_next_143 : decode cX12_next 143 = .ok (.getfield 150, 3) := by decide +kernel
theorem dX12_next_146 : decode cX12_next 146 = .ok (.iaload, 1) := by decide +kernel
theorem dX12_next_147 : decode cX12_next 147 = .ok (.invokestatic 159, 3) := by decide +kernel
theorem dX12_next_150 : decode cX12_next 150 = .ok (.aload_n 0, 1) := by decide +kernel
theorem dX12_next_151 : decode cX12_next 151 = .ok (.getfield 156, 3) := by decide +kernel
theorem dX12_next_154 : decode cX12_next 154 = .ok (.if_icmp .ne 16, 3) := by decide +kernel
theorem dX12_next_157 : decode cX12_next 157 = .ok (.aload_n 0, 1) := by decide +kernel
theorem dX12_next_158 : decode cX12_next 158 = .ok (.dup, 1) := by decide +kernel
theorem dX12_next_159 : decode cX12_next 159 = .ok (.getfield 150, 3) := by decide +kernel
theorem dX12_next_162 : decode cX12_next 162 = .ok (.iconst 1, 1) := by decide +kernel
theorem dX12_next_163 : decode cX12_next 163 = .ok (.iadd, 1) := by decide +kernel
theorem dX12_next_164 : decode cX12_next 164 = .ok (.putfield 150, 3) := by decide +kernel
theorem dX12_next_167 : decode cX12_next 167 = .ok (.goto (-56), 3) := by decide +kernel
theorem dX12_next_170 : decode cX12_next 170 = .ok (.aload_n 0, 1) := by decide +kernel
theorem dX12_next_171 : decode cX12_next 171 = .ok (.getfield 156, 3) := by decide +kernel
theorem dX12_next_174 : decode cX12_next 174 = .ok (.iconst 3, 1) := by decide +kernel
theorem dX12_next_175 : decode cX12_next 175 = .ok (.if_icmp .ne 22, 3) := by decide +kernel
theorem dX12_next_178 : decode cX12_next 178 = .ok (.aload_n 0, 1) := by decide +kernel
theorem dX12_next_179 : decode cX12_next 179 = .ok (.getfield 150, 3) := by decide +kernel
theorem dX12_next_182 : decode cX12_next 182 = .ok (.aload_n 0, 1) := by decide +kernel
theorem dX12_next_183 : decode cX12_next 183 = .ok (.getfield 153, 3) := by decide +kernel
theorem dX12_next_186 : decode cX12_next 186 = .ok (.isub, 1) := by decide +kernel
theorem dX12_next_187 : decode cX12_next 187 = .ok (.iconst 4, 1) := by decide +kernel
theorem dX12_next_188 : decode cX12_next 188 = .ok (.if_icmp .le 9, 3) := by decide +kernel
theorem dX12_next_191 : decode cX12_next 191 = .ok (.aload_n 0, 1) := by decide +kernel
theorem dX12_next_192 : decode cX12_next 192 = .ok (.bipush 6, 2) := by decide +kernel
theorem dX12_next_194 : decode cX12_next 194 = .ok (.putfield 156, 3) := by decide +kernel
theorem dX12_next_197 : decode cX12_next 197 = .ok (.aload_n 0, 1) := by decide +kernel
theorem dX12_next_198 : decode cX12_next 198 = .ok (.iconst 0, 1) := by decide +kernel
theorem dX12_next_199 : decode cX12_next 199 = .ok (.putfield 162, 3) := by decide +kernel
theorem dX12_next_202 : decode cX12_next 202 = .ok (.aload_n 0, 1) := by decide +kernel
theorem dX12_next_203 : decode cX12_next 203 = .ok (.getfield 153, 3) := by decide +kernel
theorem dX12_next_206 : decode cX12_next 206 = .ok (.istore_n 1, 1) := by decide +kernel
theorem dX12_next_207 : decode cX12_next 207 = .ok (.iload_n 1, 1) := by decide +kernel
theorem dX12_next_208 : decode cX12_next 208 = .ok (.aload_n 0, 1) := by decide +kernel
theorem dX12_next_209 : decode cX12_next 209 = .ok (.getfield 150, 3) := by decide +kernel
theorem dX12_next_212 : decode cX12_next 212 = .ok (.if_icmp .ge 38, 3) := by decide +kernel
theorem dX12_next_215 : decode cX12_next 215 = .ok (.aload_n 0, 1) := by decide +kernel
theorem dX12_next_216 : decode cX12_next 216 = .ok (.getfield 156, 3) := by decide +kernel
theorem dX12_next_219 : decode cX12_next 219 = .ok (.iconst 3, 1) := by decide +kernel
theorem dX12_next_220 : decode cX12_next 220 = .ok (.if_icmp .ne 30, 3) := by decide +kernel
theorem dX12_next_223 : decode cX12_next 223 = .ok (.aload_n 0, 1) := by decide +kernel
theorem dX12_next_224 : decode cX12_next 224 = .ok (.bipush 10, 2) := by decide +kernel
theorem dX12_next_226 : decode cX12_next 226 = .ok (.aload_n 0, 1) := by decide +kernel
theorem dX12_next_227 : decode cX12_next 227 = .ok (.getfield 162, 3) := by decide +kernel
theorem dX12_next_230 : decode cX12_next 230 = .ok (.imul, 1) := by decide +kernel
theorem dX12_next_231 : decode cX12_next 231 = .ok (.aload_n 0, 1) := by decide +kernel
theorem dX12_next_232 : decode cX12_next 232 = .ok (.getfield 28, 3) := by decide +kernel
theorem dX12_next_235 : decode cX12_next 235 = .ok (.iload_n 1, 1) := by decide +kernel
theorem dX12_next_236 : decode cX12_next 236 = .ok (.iaload, 1) := by decide +kernel
theorem dX12_next_237 : decode cX12_next 237 = .ok (.iadd, 1) := by decide +kernel
theorem dX12_next_238 : decode cX12_next 238 = .ok (.bipush 48, 2) := by decide +kernel
theorem dX12_next_240 : decode cX12_next 240 = .ok (.isub, 1) := by decide +kernel
theorem dX12_next_241 : decode cX12_next 241 = .ok (.putfield 162, 3) := by decide +kernel
theorem dX12_next_244 : decode cX12_next 244 = .ok (.iinc 1 1, 3) := by decide +kernel
theorem dX12_next_247 : decode cX12_next 247 = .ok (.goto (-40), 3) := by decide +kernel
theorem dX12_next_250 : decode cX12_next 250 = .ok (.return_, 1) := by decide +kernel
theorem dX12_says_0 : decode cX12_says 0 = .ok (.aload_n 0, 1) := by decide +kernel
theorem dX12_says_1 : decode cX12_says 1 = .ok (.getfield 156, 3) := by decide +kernel
theorem dX12_says_4 : decode cX12_says 4 = .ok (.iconst 2, 1) := by decide +kernel
theorem dX12_says_5 : decode cX12_says 5 = .ok (.if_icmp .ne 19, 3) := by decide +kernel
theorem dX12_says_8 : decode cX12_says 8 = .ok (.aload_n 0, 1) := by decide +kernel
theorem dX12_says_9 : decode cX12_says 9 = .ok (.getfield 150, 3) := by decide +kernel
theorem dX12_says_12 : decode cX12_says 12 = .ok (.aload_n 0, 1) := by decide +kernel
theorem dX12_says_13 : decode cX12_says 13 = .ok (.getfield 153, 3) := by decide +kernel
theorem dX12_says_16 : decode cX12_says 16 = .ok (.isub, 1) := by decide +kernel
theorem dX12_says_17 : decode cX12_says 17 = .ok (.aload_n 1, 1) := by decide +kernel
theorem dX12_says_18 : decode cX12_says 18 = .ok (.invokevirtual 138, 3) := by decide +kernel
theorem dX12_says_21 : decode cX12_says 21 = .ok (.if_icmp .eq 5, 3) := by decide +kernel
theorem dX12_says_24 : decode cX12_says 24 = .ok (.iconst 0, 1) := by decide +kernel
theorem dX12_says_25 : decode cX12_says 25 = .ok (.ireturn, 1) := by decide +kernel
theorem dX12_says_26 : decode cX12_says 26 = .ok (.iconst 0, 1) := by decide +kernel
theorem dX12_says_27 : decode cX12_says 27 = .ok (.istore_n 2, 1) := by decide +kernel
theorem dX12_says_28 : decode cX12_says 28 = .ok (.iload_n 2, 1) := by decide +kernel
theorem dX12_says_29 : decode cX12_says 29 = .ok (.aload_n 1, 1) := by decide +kernel
theorem dX12_says_30 : decode cX12_says 30 = .ok (.invokevirtual 138, 3) := by decide +kernel
theorem dX12_says_33 : decode cX12_says 33 = .ok (.if_icmp .ge 30, 3) := by decide +kernel
theorem dX12_says_36 : decode cX12_says 36 = .ok (.aload_n 0, 1) := by decide +kernel
theorem dX12_says_37 : decode cX12_says 37 = .ok (.getfield 28, 3) := by decide +kernel
theorem dX12_says_40 : decode cX12_says 40 = .ok (.aload_n 0, 1) := by decide +kernel
theorem dX12_says_41 : decode cX12_says 41 = .ok (.getfield 153, 3) := by decide +kernel
theorem dX12_says_44 : decode cX12_says 44 = .ok (.iload_n 2, 1) := by decide +kernel
theorem dX12_says_45 : decode cX12_says 45 = .ok (.iadd, 1) := by decide +kernel
theorem dX12_says_46 : decode cX12_says 46 = .ok (.iaload, 1) := by decide +kernel
theorem dX12_says_47 : decode cX12_says 47 = .ok (.aload_n 1, 1) := by decide +kernel
theorem dX12_says_48 : decode cX12_says 48 = .ok (.iload_n 2, 1) := by decide +kernel
theorem dX12_says_49 : decode cX12_says 49 = .ok (.invokevirtual 146, 3) := by decide +kernel
theorem dX12_says_52 : decode cX12_says 52 = .ok (.if_icmp .eq 5, 3) := by decide +kernel
theorem dX12_says_55 : decode cX12_says 55 = .ok (.iconst 0, 1) := by decide +kernel
theorem dX12_says_56 : decode cX12_says 56 = .ok (.ireturn, 1) := by decide +kernel
theorem dX12_says_57 : decode cX12_says 57 = .ok (.iinc 2 1, 3) := by decide +kernel
theorem dX12_says_60 : decode cX12_says 60 = .ok (.goto (-32), 3) := by decide +kernel
theorem dX12_says_63 : decode cX12_says 63 = .ok (.iconst 1, 1) := by decide +kernel
theorem dX12_says_64 : decode cX12_says 64 = .ok (.ireturn, 1) := by decide +kernel
theorem dX12_fail_0 : decode cX12_fail 0 = .ok (.aload_n 0, 1) := by decide +kernel
theorem dX12_fail_1 : decode cX12_fail 1 = .ok (.getfield 165, 3) := by decide +kernel
theorem dX12_fail_4 : decode cX12_fail 4 = .ok (.ifCond .ne 16, 3) := by decide +kernel
theorem dX12_fail_7 : decode cX12_fail 7 = .ok (.aload_n 0, 1) := by decide +kernel
theorem dX12_fail_8 : decode cX12_fail 8 = .ok (.iload_n 1, 1) := by decide +kernel
theorem dX12_fail_9 : decode cX12_fail 9 = .ok (.putfield 165, 3) := by decide +kernel
theorem dX12_fail_12 : decode cX12_fail 12 = .ok (.aload_n 0, 1) := by decide +kernel
theorem dX12_fail_13 : decode cX12_fail 13 = .ok (.aload_n 0, 1) := by decide +kernel
theorem dX12_fail_14 : decode cX12_fail 14 = .ok (.getfield 153, 3) := by decide +kernel
theorem dX12_fail_17 : decode cX12_fail 17 = .ok (.putfield 31, 3) := by decide +kernel
theorem dX12_fail_20 : decode cX12_fail 20 = .ok (.iconst 0, 1) := by decide +kernel
theorem dX12_fail_21 : decode cX12_fail 21 = .ok (.ireturn, 1) := by decide +kernel
theorem dX12_is_0 : decode cX12_is 0 = .ok (.aload_n 0, 1) := by decide +kernel
theorem dX12_is_1 : decode cX12_is 1 = .ok (.getfield 156, 3) := by decide +kernel
theorem dX12_is_4 : decode cX12_is 4 = .ok (.iload_n 1, 1) := by decide +kernel
theorem dX12_is_5 : decode cX12_is 5 = .ok (.if_icmp .eq 11, 3) := by decide +kernel
theorem dX12_is_8 : decode cX12_is 8 = .ok (.aload_n 0, 1) := by decide +kernel
theorem dX12_is_9 : decode cX12_is 9 = .ok (.iconst 1, 1) := by decide +kernel
theorem dX12_is_10 : decode cX12_is 10 = .ok (.invokevirtual 168, 3) := by decide +kernel
theorem dX12_is_13 : decode cX12_is 13 = .ok (.ifCond .eq 7, 3) := by decide +kernel
theorem dX12_is_16 : decode cX12_is 16 = .ok (.iconst 1, 1) := by decide +kernel
theorem dX12_is_17 : decode cX12_is 17 = .ok (.goto 4, 3) := by decide +kernel
theorem dX12_is_20 : decode cX12_is 20 = .ok (.iconst 0, 1) := by decide +kernel
theorem dX12_is_21 : decode cX12_is 21 = .ok (.ireturn, 1) := by decide +kernel
theorem dX12_number_0 : decode cX12_number 0 = .ok (.aload_n 0, 1) := by decide +kernel
theorem dX12_number_1 : decode cX12_number 1 = .ok (.iconst 3, 1) := by decide +kernel
theorem dX12_number_2 : decode cX12_number 2 = .ok (.invokevirtual 171, 3) := by decide +kernel
theorem dX12_number_5 : decode cX12_number 5 = .ok (.ifCond .ne 5, 3) := by decide +kernel
theorem dX12_number_8 : decode cX12_number 8 = .ok (.iconst 0, 1) := by decide +kernel
theorem dX12_number_9 : decode cX12_number 9 = .ok (.ireturn, 1) := by decide +kernel
theorem dX12_number_10 : decode cX12_number 10 = .ok (.aload_n 0, 1) := by decide +kernel
theorem dX12_number_11 : decode cX12_number 11 = .ok (.getfield 162, 3) := by decide +kernel
theorem dX12_number_14 : decode cX12_number 14 = .ok (.iload_n 2, 1) := by decide +kernel
theorem dX12_number_15 : decode cX12_number 15 = .ok (.iload_n 3, 1) := by decide +kernel
theorem dX12_number_16 : decode cX12_number 16 = .ok (.invokestatic 57, 3) := by decide +kernel
theorem dX12_number_19 : decode cX12_number 19 = .ok (.ifCond .ne 9, 3) := by decide +kernel
theorem dX12_number_22 : decode cX12_number 22 = .ok (.aload_n 0, 1) := by decide +kernel
theorem dX12_number_23 : decode cX12_number 23 = .ok (.iconst 2, 1) := by decide +kernel
theorem dX12_number_24 : decode cX12_number 24 = .ok (.invokevirtual 168, 3) := by decide +kernel
theorem dX12_number_27 : decode cX12_number 27 = .ok (.ireturn, 1) := by decide +kernel
theorem dX12_number_28 : decode cX12_number 28 = .ok (.aload_n 0, 1) := by decide +kernel
theorem dX12_number_29 : decode cX12_number 29 = .ok (.getfield 39, 3) := by decide +kernel
theorem dX12_number_32 : decode cX12_number 32 = .ok (.iload_n 1, 1) := by decide +kernel
theorem dX12_number_33 : decode cX12_number 33 = .ok (.aload_n 0, 1) := by decide +kernel
theorem dX12_number_34 : decode cX12_number 34 = .ok (.getfield 162, 3) := by decide +kernel
theorem dX12_number_37 : decode cX12_number 37 = .ok (.iastore, 1) := by decide +kernel
theorem dX12_number_38 : decode cX12_number 38 = .ok (.aload_n 0, 1) := by decide +kernel
theorem dX12_number_39 : decode cX12_number 39 = .ok (.invokevirtual 174, 3) := by decide +kernel
theorem dX12_number_42 : decode cX12_number 42 = .ok (.iconst 1, 1) := by decide +kernel
theorem dX12_number_43 : decode cX12_number 43 = .ok (.ireturn, 1) := by decide +kernel
theorem dX12_troughAt_0 : decode cX12_troughAt 0 = .ok (.aload_n 0, 1) := by decide +kernel
theorem dX12_troughAt_1 : decode cX12_troughAt 1 = .ok (.iload_n 1, 1) := by decide +kernel
theorem dX12_troughAt_2 : decode cX12_troughAt 2 = .ok (.iconst 0, 1) := by decide +kernel
theorem dX12_troughAt_3 : decode cX12_troughAt 3 = .ok (.aload_n 0, 1) := by decide +kernel
theorem dX12_troughAt_4 : decode cX12_troughAt 4 = .ok (.getfield 7, 3) := by decide +kernel
theorem dX12_troughAt_7 : decode cX12_troughAt 7 = .ok (.bipush 9, 2) := by decide +kernel
theorem dX12_troughAt_9 : decode cX12_troughAt 9 = .ok (.iaload, 1) := by decide +kernel
theorem dX12_troughAt_10 : decode cX12_troughAt 10 = .ok (.iconst 1, 1) := by decide +kernel
theorem dX12_troughAt_11 : decode cX12_troughAt 11 = .ok (.isub, 1) := by decide +kernel
theorem dX12_troughAt_12 : decode cX12_troughAt 12 = .ok (.invokevirtual 177, 3) := by decide +kernel
theorem dX12_troughAt_15 : decode cX12_troughAt 15 = .ok (.ireturn, 1) := by decide +kernel
theorem dX12_stops_0 : decode cX12_stops 0 = .ok (.aload_n 0, 1) := by decide +kernel
theorem dX12_stops_1 : decode cX12_stops 1 = .ok (.iconst 1, 1) := by decide +kernel
theorem dX12_stops_2 : decode cX12_stops 2 = .ok (.invokevirtual 171, 3) := by decide +kernel
theorem dX12_stops_5 : decode cX12_stops 5 = .ok (.ifCond .eq 19, 3) := by decide +kernel
theorem dX12_stops_8 : decode cX12_stops 8 = .ok (.iload_n 1, 1) := by decide +kernel
theorem dX12_stops_9 : decode cX12_stops 9 = .ok (.ifCond .ne 11, 3) := by decide +kernel
theorem dX12_stops_12 : decode cX12_stops 12 = .ok (.aload_n 0, 1) := by decide +kernel
theorem dX12_stops_13 : decode cX12_stops 13 = .ok (.iconst 3, 1) := by decide +kernel
theorem dX12_stops_14 : decode cX12_stops 14 = .ok (.invokevirtual 168, 3) := by decide +kernel
theorem dX12_stops_17 : decode cX12_stops 17 = .ok (.ifCond .eq 7, 3) := by decide +kernel
theorem dX12_stops_20 : decode cX12_stops 20 = .ok (.iconst 1, 1) := by decide +kernel
theorem dX12_stops_21 : decode cX12_stops 21 = .ok (.goto 4, 3) := by decide +kernel
theorem dX12_stops_24 : decode cX12_stops 24 = .ok (.iconst 0, 1) := by decide +kernel
theorem dX12_stops_25 : decode cX12_stops 25 = .ok (.ireturn, 1) := by decide +kernel
theorem dX12_either_0 : decode cX12_either 0 = .ok (.aload_n 0, 1) := by decide +kernel
theorem dX12_either_1 : decode cX12_either 1 = .ok (.aload_n 1, 1) := by decide +kernel
theorem dX12_either_2 : decode cX12_either 2 = .ok (.invokevirtual 180, 3) := by decide +kernel
theorem dX12_either_5 : decode cX12_either 5 = .ok (.ifCond .eq 7, 3) := by decide +kernel
theorem dX12_either_8 : decode cX12_either 8 = .ok (.iconst 0, 1) := by decide +kernel
theorem dX12_either_9 : decode cX12_either 9 = .ok (.goto 16, 3) := by decide +kernel
theorem dX12_either_12 : decode cX12_either 12 = .ok (.aload_n 0, 1) := by decide +kernel
theorem dX12_either_13 : decode cX12_either 13 = .ok (.aload_n 2, 1) := by decide +kernel
theorem dX12_either_14 : decode cX12_either 14 = .ok (.invokevirtual 180, 3) := by decide +kernel
theorem dX12_either_17 : decode cX12_either 17 = .ok (.ifCond .eq 7, 3) := by decide +kernel
theorem dX12_either_20 : decode cX12_either 20 = .ok (.iconst 1, 1) := by decide +kernel
theorem dX12_either_21 : decode cX12_either 21 = .ok (.goto 4, 3) := by decide +kernel
theorem dX12_either_24 : decode cX12_either 24 = .ok (.iconst (-1), 1) := by decide +kernel
theorem dX12_either_25 : decode cX12_either 25 = .ok (.istore_n 3, 1) := by decide +kernel
theorem dX12_either_26 : decode cX12_either 26 = .ok (.iload_n 3, 1) := by decide +kernel
theorem dX12_either_27 : decode cX12_either 27 = .ok (.iconst (-1), 1) := by decide +kernel
theorem dX12_either_28 : decode cX12_either 28 = .ok (.if_icmp .ne 12, 3) := by decide +kernel
theorem dX12_either_31 : decode cX12_either 31 = .ok (.aload_n 0, 1) := by decide +kernel
theorem dX12_either_32 : decode cX12_either 32 = .ok (.iconst 1, 1) := by decide +kernel
theorem dX12_either_33 : decode cX12_either 33 = .ok (.invokevirtual 168, 3) := by decide +kernel
theorem dX12_either_36 : decode cX12_either 36 = .ok (.pop, 1) := by decide +kernel
theorem dX12_either_37 : decode cX12_either 37 = .ok (.goto 7, 3) := by decide +kernel
theorem dX12_either_40 : decode cX12_either 40 = .ok (.aload_n 0, 1) := by decide +kernel
theorem dX12_either_41 : decode cX12_either 41 = .ok (.invokevirtual 174, 3) := by decide +kernel
theorem dX12_either_44 : decode cX12_either 44 = .ok (.iload_n 3, 1) := by decide +kernel
theorem dX12_either_45 : decode cX12_either 45 = .ok (.ireturn, 1) := by decide +kernel
theorem dX12_readsTrough_0 : decode cX12_readsTrough 0 = .ok (.aload_n 0, 1) := by decide +kernel
theorem dX12_readsTrough_1 : decode cX12_readsTrough 1 = .ok (.iconst 0, 1) := by decide +kernel
theorem dX12_readsTrough_2 : decode cX12_readsTrough 2 = .ok (.bipush 10, 2) := by decide +kernel
theorem dX12_readsTrough_4 : decode cX12_readsTrough 4 = .ok (.sipush 500, 3) := by decide +kernel
theorem dX12_readsTrough_7 : decode cX12_readsTrough 7 = .ok (.invokevirtual 177, 3) := by decide +kernel
theorem dX12_readsTrough_10 : decode cX12_readsTrough 10 = .ok (.ifCond .eq 27, 3) := by decide +kernel
theorem dX12_readsTrough_13 : decode cX12_readsTrough 13 = .ok (.aload_n 0, 1) := by decide +kernel
theorem dX12_readsTrough_14 : decode cX12_readsTrough 14 = .ok (.aload_n 0, 1) := by decide +kernel
theorem dX12_readsTrough_15 : decode cX12_readsTrough 15 = .ok (.getfield 7, 3) := by decide +kernel
theorem dX12_readsTrough_18 : decode cX12_readsTrough 18 = .ok (.bipush 9, 2) := by decide +kernel
theorem dX12_readsTrough_20 : decode cX12_readsTrough 20 = .ok (.iaload, 1) := by decide +kernel
theorem dX12_readsTrough_21 : decode cX12_readsTrough 21 = .ok (.bipush 8, 2) := by decide +kernel
theorem dX12_readsTrough_23 : decode cX12_readsTrough 23 = .ok (.if_icmp .ge 7, 3) := by decide +kernel
theorem dX12_readsTrough_26 : decode cX12_readsTrough 26 = .ok (.iconst 1, 1) := by decide +kernel
theorem dX12_readsTrough_27 : decode cX12_readsTrough 27 = .ok (.goto 4, 3) := by decide +kernel
theorem dX12_readsTrough_30 : decode cX12_readsTrough 30 = .ok (.iconst 0, 1) := by decide +kernel
theorem dX12_readsTrough_31 : decode cX12_readsTrough 31 = .ok (.invokevirtual 184, 3) := by decide +kernel
theorem dX12_readsTrough_34 : decode cX12_readsTrough 34 = .ok (.ifCond .ne 5, 3) := by decide +kernel
theorem dX12_readsTrough_37 : decode cX12_readsTrough 37 = .ok (.iconst 0, 1) := by decide +kernel
theorem dX12_readsTrough_38 : decode cX12_readsTrough 38 = .ok (.ireturn, 1) := by decide +kernel
theorem dX12_readsTrough_39 : decode cX12_readsTrough 39 = .ok (.aload_n 0, 1) := by decide +kernel
theorem dX12_readsTrough_40 : decode cX12_readsTrough 40 = .ok (.aload_n 0, 1) := by decide +kernel
theorem dX12_readsTrough_41 : decode cX12_readsTrough 41 = .ok (.getfield 39, 3) := by decide +kernel
theorem dX12_readsTrough_44 : decode cX12_readsTrough 44 = .ok (.iconst 0, 1) := by decide +kernel
theorem dX12_readsTrough_45 : decode cX12_readsTrough 45 = .ok (.iaload, 1) := by decide +kernel
theorem dX12_readsTrough_46 : decode cX12_readsTrough 46 = .ok (.invokevirtual 188, 3) := by decide +kernel
theorem dX12_readsTrough_49 : decode cX12_readsTrough 49 = .ok (.pop, 1) := by decide +kernel
theorem dX12_readsTrough_50 : decode cX12_readsTrough 50 = .ok (.iconst 1, 1) := by decide +kernel
theorem dX12_readsTrough_51 : decode cX12_readsTrough 51 = .ok (.ireturn, 1) := by decide +kernel
theorem dX12_readsLoad_0 : decode cX12_readsLoad 0 = .ok (.aload_n 0, 1) := by decide +kernel
theorem dX12_readsLoad_1 : decode cX12_readsLoad 1 = .ok (.iconst 0, 1) := by decide +kernel
theorem dX12_readsLoad_2 : decode cX12_readsLoad 2 = .ok (.invokevirtual 191, 3) := by decide +kernel
theorem dX12_readsLoad_5 : decode cX12_readsLoad 5 = .ok (.ifCond .eq 54, 3) := by decide +kernel
theorem dX12_readsLoad_8 : decode cX12_readsLoad 8 = .ok (.aload_n 0, 1) := by decide +kernel
theorem dX12_readsLoad_9 : decode cX12_readsLoad 9 = .ok (.iconst 1, 1) := by decide +kernel
theorem dX12_readsLoad_10 : decode cX12_readsLoad 10 = .ok (.iconst 1, 1) := by decide +kernel
theorem dX12_readsLoad_11 : decode cX12_readsLoad 11 = .ok (.aload_n 0, 1) := by decide +kernel
theorem dX12_readsLoad_12 : decode cX12_readsLoad 12 = .ok (.aload_n 0, 1) := by decide +kernel
theorem dX12_readsLoad_13 : decode cX12_readsLoad 13 = .ok (.getfield 39, 3) := by decide +kernel
theorem dX12_readsLoad_16 : decode cX12_readsLoad 16 = .ok (.iconst 0, 1) := by decide +kernel
theorem dX12_readsLoad_17 : decode cX12_readsLoad 17 = .ok (.iaload, 1) := by decide +kernel
theorem dX12_readsLoad_18 : decode cX12_readsLoad 18 = .ok (.iconst 0, 1) := by decide +kernel
theorem dX12_readsLoad_19 : decode cX12_readsLoad 19 = .ok (.invokevirtual 61, 3) := by decide +kernel
theorem dX12_readsLoad_22 : decode cX12_readsLoad 22 = .ok (.invokevirtual 177, 3) := by decide +kernel
theorem dX12_readsLoad_25 : decode cX12_readsLoad 25 = .ok (.ifCond .eq 34, 3) := by decide +kernel
theorem dX12_readsLoad_28 : decode cX12_readsLoad 28 = .ok (.aload_n 0, 1) := by decide +kernel
theorem dX12_readsLoad_29 : decode cX12_readsLoad 29 = .ok (.iconst 2, 1) := by decide +kernel
theorem dX12_readsLoad_30 : decode cX12_readsLoad 30 = .ok (.sipush 600, 3) := by decide +kernel
theorem dX12_readsLoad_33 : decode cX12_readsLoad 33 = .ok (.sipush 900, 3) := by decide +kernel
theorem dX12_readsLoad_36 : decode cX12_readsLoad 36 = .ok (.invokevirtual 177, 3) := by decide +kernel
theorem dX12_readsLoad_39 : decode cX12_readsLoad 39 = .ok (.ifCond .eq 20, 3) := by decide +kernel
theorem dX12_readsLoad_42 : decode cX12_readsLoad 42 = .ok (.aload_n 0, 1) := by decide +kernel
theorem dX12_readsLoad_43 : decode cX12_readsLoad 43 = .ok (.aload_n 0, 1) := by decide +kernel
theorem dX12_readsLoad_44 : decode cX12_readsLoad 44 = .ok (.aload_n 0, 1) := by decide +kernel
theorem dX12_readsLoad_45 : decode cX12_readsLoad 45 = .ok (.getfield 39, 3) := by decide +kernel
theorem dX12_readsLoad_48 : decode cX12_readsLoad 48 = .ok (.iconst 0, 1) := by decide +kernel
theorem dX12_readsLoad_49 : decode cX12_readsLoad 49 = .ok (.iaload, 1) := by decide +kernel
theorem dX12_readsLoad_50 : decode cX12_readsLoad 50 = .ok (.invokevirtual 73, 3) := by decide +kernel
theorem dX12_readsLoad_53 : decode cX12_readsLoad 53 = .ok (.invokevirtual 184, 3) := by decide +kernel
theorem dX12_readsLoad_56 : decode cX12_readsLoad 56 = .ok (.ifCond .ne 5, 3) := by decide +kernel
theorem dX12_readsLoad_59 : decode cX12_readsLoad 59 = .ok (.iconst 0, 1) := by decide +kernel
theorem dX12_readsLoad_60 : decode cX12_readsLoad 60 = .ok (.ireturn, 1) := by decide +kernel
theorem dX12_readsLoad_61 : decode cX12_readsLoad 61 = .ok (.aload_n 0, 1) := by decide +kernel
theorem dX12_readsLoad_62 : decode cX12_readsLoad 62 = .ok (.aload_n 0, 1) := by decide +kernel
theorem dX12_readsLoad_63 : decode cX12_readsLoad 63 = .ok (.getfield 39, 3) := by decide +kernel
theorem dX12_readsLoad_66 : decode cX12_readsLoad 66 = .ok (.iconst 0, 1) := by decide +kernel
theorem dX12_readsLoad_67 : decode cX12_readsLoad 67 = .ok (.iaload, 1) := by decide +kernel
theorem dX12_readsLoad_68 : decode cX12_readsLoad 68 = .ok (.aload_n 0, 1) := by decide +kernel
theorem dX12_readsLoad_69 : decode cX12_readsLoad 69 = .ok (.getfield 39, 3) := by decide +kernel
theorem dX12_readsLoad_72 : decode cX12_readsLoad 72 = .ok (.iconst 1, 1) := by decide +kernel
theorem dX12_readsLoad_73 : decode cX12_readsLoad 73 = .ok (.iaload, 1) := by decide +kernel
theorem dX12_readsLoad_74 : decode cX12_readsLoad 74 = .ok (.aload_n 0, 1) := by decide +kernel
theorem dX12_readsLoad_75 : decode cX12_readsLoad 75 = .ok (.getfield 39, 3) := by decide +kernel
theorem dX12_readsLoad_78 : decode cX12_readsLoad 78 = .ok (.iconst 2, 1) := by decide +kernel
theorem dX12_readsLoad_79 : decode cX12_readsLoad 79 = .ok (.iaload, 1) := by decide +kernel
theorem dX12_readsLoad_80 : decode cX12_readsLoad 80 = .ok (.invokevirtual 194, 3) := by decide +kernel
theorem dX12_readsLoad_83 : decode cX12_readsLoad 83 = .ok (.pop, 1) := by decide +kernel
theorem dX12_readsLoad_84 : decode cX12_readsLoad 84 = .ok (.iconst 1, 1) := by decide +kernel
theorem dX12_readsLoad_85 : decode cX12_readsLoad 85 = .ok (.ireturn, 1) := by decide +kernel
theorem dX12_readsFan_0 : decode cX12_readsFan 0 = .ok (.aload_n 0, 1) := by decide +kernel
theorem dX12_readsFan_1 : decode cX12_readsFan 1 = .ok (.iconst 0, 1) := by decide +kernel
theorem dX12_readsFan_2 : decode cX12_readsFan 2 = .ok (.invokevirtual 191, 3) := by decide +kernel
theorem dX12_readsFan_5 : decode cX12_readsFan 5 = .ok (.ifCond .eq 21, 3) := by decide +kernel
theorem dX12_readsFan_8 : decode cX12_readsFan 8 = .ok (.aload_n 0, 1) := by decide +kernel
theorem dX12_readsFan_9 : decode cX12_readsFan 9 = .ok (.iconst 1, 1) := by decide +kernel
theorem dX12_readsFan_10 : decode cX12_readsFan 10 = .ok (.iconst 0, 1) := by decide +kernel
theorem dX12_readsFan_11 : decode cX12_readsFan 11 = .ok (.iconst 5, 1) := by decide +kernel
theorem dX12_readsFan_12 : decode cX12_readsFan 12 = .ok (.invokevirtual 177, 3) := by decide +kernel
theorem dX12_readsFan_15 : decode cX12_readsFan 15 = .ok (.ifCond .eq 11, 3) := by decide +kernel
theorem dX12_readsFan_18 : decode cX12_readsFan 18 = .ok (.aload_n 0, 1) := by decide +kernel
theorem dX12_readsFan_19 : decode cX12_readsFan 19 = .ok (.iconst 1, 1) := by decide +kernel
theorem dX12_readsFan_20 : decode cX12_readsFan 20 = .ok (.invokevirtual 184, 3) := by decide +kernel
theorem dX12_readsFan_23 : decode cX12_readsFan 23 = .ok (.ifCond .ne 5, 3) := by decide +kernel
theorem dX12_readsFan_26 : decode cX12_readsFan 26 = .ok (.iconst 0, 1) := by decide +kernel
theorem dX12_readsFan_27 : decode cX12_readsFan 27 = .ok (.ireturn, 1) := by decide +kernel
theorem dX12_readsFan_28 : decode cX12_readsFan 28 = .ok (.aload_n 0, 1) := by decide +kernel
theorem dX12_readsFan_29 : decode cX12_readsFan 29 = .ok (.aload_n 0, 1) := by decide +kernel
theorem dX12_readsFan_30 : decode cX12_readsFan 30 = .ok (.getfield 39, 3) := by decide +kernel
theorem dX12_readsFan_33 : decode cX12_readsFan 33 = .ok (.iconst 0, 1) := by decide +kernel
theorem dX12_readsFan_34 : decode cX12_readsFan 34 = .ok (.iaload, 1) := by decide +kernel
theorem dX12_readsFan_35 : decode cX12_readsFan 35 = .ok (.iconst 1, 1) := by decide +kernel
theorem dX12_readsFan_36 : decode cX12_readsFan 36 = .ok (.aload_n 0, 1) := by decide +kernel
theorem dX12_readsFan_37 : decode cX12_readsFan 37 = .ok (.getfield 39, 3) := by decide +kernel
theorem dX12_readsFan_40 : decode cX12_readsFan 40 = .ok (.iconst 1, 1) := by decide +kernel
theorem dX12_readsFan_41 : decode cX12_readsFan 41 = .ok (.iaload, 1) := by decide +kernel
theorem dX12_readsFan_42 : decode cX12_readsFan 42 = .ok (.invokevirtual 102, 3) := by decide +kernel
theorem dX12_readsFan_45 : decode cX12_readsFan 45 = .ok (.iconst 1, 1) := by decide +kernel
theorem dX12_readsFan_46 : decode cX12_readsFan 46 = .ok (.ireturn, 1) := by decide +kernel
theorem dX12_readsReverse_0 : decode cX12_readsReverse 0 = .ok (.aload_n 0, 1) := by decide +kernel
theorem dX12_readsReverse_1 : decode cX12_readsReverse 1 = .ok (.iconst 0, 1) := by decide +kernel
theorem dX12_readsReverse_2 : decode cX12_readsReverse 2 = .ok (.invokevirtual 191, 3) := by decide +kernel
theorem dX12_readsReverse_5 : decode cX12_readsReverse 5 = .ok (.ifCond .eq 11, 3) := by decide +kernel
theorem dX12_readsReverse_8 : decode cX12_readsReverse 8 = .ok (.aload_n 0, 1) := by decide +kernel
theorem dX12_readsReverse_9 : decode cX12_readsReverse 9 = .ok (.iconst 1, 1) := by decide +kernel
theorem dX12_readsReverse_10 : decode cX12_readsReverse 10 = .ok (.invokevirtual 184, 3) := by decide +kernel
theorem dX12_readsReverse_13 : decode cX12_readsReverse 13 = .ok (.ifCond .ne 5, 3) := by decide +kernel
theorem dX12_readsReverse_16 : decode cX12_readsReverse 16 = .ok (.iconst 0, 1) := by decide +kernel
theorem dX12_readsReverse_17 : decode cX12_readsReverse 17 = .ok (.ireturn, 1) := by decide +kernel
theorem dX12_readsReverse_18 : decode cX12_readsReverse 18 = .ok (.aload_n 0, 1) := by decide +kernel
theorem dX12_readsReverse_19 : decode cX12_readsReverse 19 = .ok (.aload_n 0, 1) := by decide +kernel
theorem dX12_readsReverse_20 : decode cX12_readsReverse 20 = .ok (.getfield 39, 3) := by decide +kernel
theorem dX12_readsReverse_23 : decode cX12_readsReverse 23 = .ok (.iconst 0, 1) := by decide +kernel
theorem dX12_readsReverse_24 : decode cX12_readsReverse 24 = .ok (.iaload, 1) := by decide +kernel
theorem dX12_readsReverse_25 : decode cX12_readsReverse 25 = .ok (.invokevirtual 198, 3) := by decide +kernel
theorem dX12_readsReverse_28 : decode cX12_readsReverse 28 = .ok (.pop, 1) := by decide +kernel
theorem dX12_readsReverse_29 : decode cX12_readsReverse 29 = .ok (.iconst 1, 1) := by decide +kernel
theorem dX12_readsReverse_30 : decode cX12_readsReverse 30 = .ok (.ireturn, 1) := by decide +kernel
theorem dX12_readsSetting_0 : decode cX12_readsSetting 0 = .ok (.aload_n 0, 1) := by decide +kernel
theorem dX12_readsSetting_1 : decode cX12_readsSetting 1 = .ok (.iconst 0, 1) := by decide +kernel
theorem dX12_readsSetting_2 : decode cX12_readsSetting 2 = .ok (.iload_n 2, 1) := by decide +kernel
theorem dX12_readsSetting_3 : decode cX12_readsSetting 3 = .ok (.iload_n 3, 1) := by decide +kernel
theorem dX12_readsSetting_4 : decode cX12_readsSetting 4 = .ok (.invokevirtual 177, 3) := by decide +kernel
theorem dX12_readsSetting_7 : decode cX12_readsSetting 7 = .ok (.ifCond .eq 11, 3) := by decide +kernel
theorem dX12_readsSetting_10 : decode cX12_readsSetting 10 = .ok (.aload_n 0, 1) := by decide +kernel
theorem dX12_readsSetting_11 : decode cX12_readsSetting 11 = .ok (.iconst 1, 1) := by decide +kernel
theorem dX12_readsSetting_12 : decode cX12_readsSetting 12 = .ok (.invokevirtual 184, 3) := by decide +kernel
theorem dX12_readsSetting_15 : decode cX12_readsSetting 15 = .ok (.ifCond .ne 5, 3) := by decide +kernel
theorem dX12_readsSetting_18 : decode cX12_readsSetting 18 = .ok (.iconst 0, 1) := by decide +kernel
theorem dX12_readsSetting_19 : decode cX12_readsSetting 19 = .ok (.ireturn, 1) := by decide +kernel
theorem dX12_readsSetting_20 : decode cX12_readsSetting 20 = .ok (.aload_n 0, 1) := by decide +kernel
theorem dX12_readsSetting_21 : decode cX12_readsSetting 21 = .ok (.getfield 7, 3) := by decide +kernel
theorem dX12_readsSetting_24 : decode cX12_readsSetting 24 = .ok (.iload_n 1, 1) := by decide +kernel
theorem dX12_readsSetting_25 : decode cX12_readsSetting 25 = .ok (.aload_n 0, 1) := by decide +kernel
theorem dX12_readsSetting_26 : decode cX12_readsSetting 26 = .ok (.getfield 39, 3) := by decide +kernel
theorem dX12_readsSetting_29 : decode cX12_readsSetting 29 = .ok (.iconst 0, 1) := by decide +kernel
theorem dX12_readsSetting_30 : decode cX12_readsSetting 30 = .ok (.iaload, 1) := by decide +kernel
theorem dX12_readsSetting_31 : decode cX12_readsSetting 31 = .ok (.iastore, 1) := by decide +kernel
theorem dX12_readsSetting_32 : decode cX12_readsSetting 32 = .ok (.iconst 1, 1) := by decide +kernel
theorem dX12_readsSetting_33 : decode cX12_readsSetting 33 = .ok (.ireturn, 1) := by decide +kernel
theorem dX12_readsMonsoon_0 : decode cX12_readsMonsoon 0 = .ok (.aload_n 0, 1) := by decide +kernel
theorem dX12_readsMonsoon_1 : decode cX12_readsMonsoon 1 = .ok (.iconst 0, 1) := by decide +kernel
theorem dX12_readsMonsoon_2 : decode cX12_readsMonsoon 2 = .ok (.aload_n 0, 1) := by decide +kernel
theorem dX12_readsMonsoon_3 : decode cX12_readsMonsoon 3 = .ok (.getfield 7, 3) := by decide +kernel
theorem dX12_readsMonsoon_6 : decode cX12_readsMonsoon 6 = .ok (.iconst 0, 1) := by decide +kernel
theorem dX12_readsMonsoon_7 : decode cX12_readsMonsoon 7 = .ok (.iaload, 1) := by decide +kernel
theorem dX12_readsMonsoon_8 : decode cX12_readsMonsoon 8 = .ok (.bipush 24, 2) := by decide +kernel
theorem dX12_readsMonsoon_10 : decode cX12_readsMonsoon 10 = .ok (.idiv, 1) := by decide +kernel
theorem dX12_readsMonsoon_11 : decode cX12_readsMonsoon 11 = .ok (.bipush 83, 2) := by decide +kernel
theorem dX12_readsMonsoon_13 : decode cX12_readsMonsoon 13 = .ok (.invokevirtual 177, 3) := by decide +kernel
theorem dX12_readsMonsoon_16 : decode cX12_readsMonsoon 16 = .ok (.ifCond .eq 25, 3) := by decide +kernel
theorem dX12_readsMonsoon_19 : decode cX12_readsMonsoon 19 = .ok (.aload_n 0, 1) := by decide +kernel
theorem dX12_readsMonsoon_20 : decode cX12_readsMonsoon 20 = .ok (.aload_n 0, 1) := by decide +kernel
theorem dX12_readsMonsoon_21 : decode cX12_readsMonsoon 21 = .ok (.getfield 7, 3) := by decide +kernel
theorem dX12_readsMonsoon_24 : decode cX12_readsMonsoon 24 = .ok (.iconst 5, 1) := by decide +kernel
theorem dX12_readsMonsoon_25 : decode cX12_readsMonsoon 25 = .ok (.iaload, 1) := by decide +kernel
theorem dX12_readsMonsoon_26 : decode cX12_readsMonsoon 26 = .ok (.iconst 3, 1) := by decide +kernel
theorem dX12_readsMonsoon_27 : decode cX12_readsMonsoon 27 = .ok (.if_icmp .ge 7, 3) := by decide +kernel
theorem dX12_readsMonsoon_30 : decode cX12_readsMonsoon 30 = .ok (.iconst 1, 1) := by decide +kernel
theorem dX12_readsMonsoon_31 : decode cX12_readsMonsoon 31 = .ok (.goto 4, 3) := by decide +kernel
theorem dX12_readsMonsoon_34 : decode cX12_readsMonsoon 34 = .ok (.iconst 0, 1) := by decide +kernel
theorem dX12_readsMonsoon_35 : decode cX12_readsMonsoon 35 = .ok (.invokevirtual 184, 3) := by decide +kernel
theorem dX12_readsMonsoon_38 : decode cX12_readsMonsoon 38 = .ok (.ifCond .ne 5, 3) := by decide +kernel
theorem dX12_readsMonsoon_41 : decode cX12_readsMonsoon 41 = .ok (.iconst 0, 1) := by decide +kernel
theorem dX12_readsMonsoon_42 : decode cX12_readsMonsoon 42 = .ok (.ireturn, 1) := by decide +kernel
theorem dX12_readsMonsoon_43 : decode cX12_readsMonsoon 43 = .ok (.aload_n 0, 1) := by decide +kernel
theorem dX12_readsMonsoon_44 : decode cX12_readsMonsoon 44 = .ok (.aload_n 0, 1) := by decide +kernel
theorem dX12_readsMonsoon_45 : decode cX12_readsMonsoon 45 = .ok (.getfield 39, 3) := by decide +kernel
theorem dX12_readsMonsoon_48 : decode cX12_readsMonsoon 48 = .ok (.iconst 0, 1) := by decide +kernel
theorem dX12_readsMonsoon_49 : decode cX12_readsMonsoon 49 = .ok (.iaload, 1) := by decide +kernel
theorem dX12_readsMonsoon_50 : decode cX12_readsMonsoon 50 = .ok (.invokevirtual 201, 3) := by decide +kernel
theorem dX12_readsMonsoon_53 : decode cX12_readsMonsoon 53 = .ok (.pop, 1) := by decide +kernel
theorem dX12_readsMonsoon_54 : decode cX12_readsMonsoon 54 = .ok (.iconst 1, 1) := by decide +kernel
theorem dX12_readsMonsoon_55 : decode cX12_readsMonsoon 55 = .ok (.ireturn, 1) := by decide +kernel
theorem dX12_readsTarget_0 : decode cX12_readsTarget 0 = .ok (.aload_n 0, 1) := by decide +kernel
theorem dX12_readsTarget_1 : decode cX12_readsTarget 1 = .ok (.iconst 0, 1) := by decide +kernel
theorem dX12_readsTarget_2 : decode cX12_readsTarget 2 = .ok (.sipush 500, 3) := by decide +kernel
theorem dX12_readsTarget_5 : decode cX12_readsTarget 5 = .ok (.sipush 700, 3) := by decide +kernel
theorem dX12_readsTarget_8 : decode cX12_readsTarget 8 = .ok (.invokevirtual 177, 3) := by decide +kernel
theorem dX12_readsTarget_11 : decode cX12_readsTarget 11 = .ok (.ifCond .eq 22, 3) := by decide +kernel
theorem dX12_readsTarget_14 : decode cX12_readsTarget 14 = .ok (.aload_n 0, 1) := by decide +kernel
theorem dX12_readsTarget_15 : decode cX12_readsTarget 15 = .ok (.iconst 1, 1) := by decide +kernel
theorem dX12_readsTarget_16 : decode cX12_readsTarget 16 = .ok (.iconst 5, 1) := by decide +kernel
theorem dX12_readsTarget_17 : decode cX12_readsTarget 17 = .ok (.bipush 50, 2) := by decide +kernel
theorem dX12_readsTarget_19 : decode cX12_readsTarget 19 = .ok (.invokevirtual 177, 3) := by decide +kernel
theorem dX12_readsTarget_22 : decode cX12_readsTarget 22 = .ok (.ifCond .eq 11, 3) := by decide +kernel
theorem dX12_readsTarget_25 : decode cX12_readsTarget 25 = .ok (.aload_n 0, 1) := by decide +kernel
theorem dX12_readsTarget_26 : decode cX12_readsTarget 26 = .ok (.iconst 1, 1) := by decide +kernel
theorem dX12_readsTarget_27 : decode cX12_readsTarget 27 = .ok (.invokevirtual 184, 3) := by decide +kernel
theorem dX12_readsTarget_30 : decode cX12_readsTarget 30 = .ok (.ifCond .ne 5, 3) := by decide +kernel
theorem dX12_readsTarget_33 : decode cX12_readsTarget 33 = .ok (.iconst 0, 1) := by decide +kernel
theorem dX12_readsTarget_34 : decode cX12_readsTarget 34 = .ok (.ireturn, 1) := by decide +kernel
theorem dX12_readsTarget_35 : decode cX12_readsTarget 35 = .ok (.aload_n 0, 1) := by decide +kernel
theorem dX12_readsTarget_36 : decode cX12_readsTarget 36 = .ok (.aload_n 0, 1) := by decide +kernel
theorem dX12_readsTarget_37 : decode cX12_readsTarget 37 = .ok (.getfield 39, 3) := by decide +kernel
theorem dX12_readsTarget_40 : decode cX12_readsTarget 40 = .ok (.iconst 0, 1) := by decide +kernel
theorem dX12_readsTarget_41 : decode cX12_readsTarget 41 = .ok (.iaload, 1) := by decide +kernel
theorem dX12_readsTarget_42 : decode cX12_readsTarget 42 = .ok (.aload_n 0, 1) := by decide +kernel
theorem dX12_readsTarget_43 : decode cX12_readsTarget 43 = .ok (.getfield 39, 3) := by decide +kernel
theorem dX12_readsTarget_46 : decode cX12_readsTarget 46 = .ok (.iconst 1, 1) := by decide +kernel
theorem dX12_readsTarget_47 : decode cX12_readsTarget 47 = .ok (.iaload, 1) := by decide +kernel
theorem dX12_readsTarget_48 : decode cX12_readsTarget 48 = .ok (.invokevirtual 204, 3) := by decide +kernel
theorem dX12_readsTarget_51 : decode cX12_readsTarget 51 = .ok (.pop, 1) := by decide +kernel
theorem dX12_readsTarget_52 : decode cX12_readsTarget 52 = .ok (.iconst 1, 1) := by decide +kernel
theorem dX12_readsTarget_53 : decode cX12_readsTarget 53 = .ok (.ireturn, 1) := by decide +kernel
theorem dX12_readsTurn_0 : decode cX12_readsTurn 0 = .ok (.aload_n 0, 1) := by decide +kernel
theorem dX12_readsTurn_1 : decode cX12_readsTurn 1 = .ok (.iconst 0, 1) := by decide +kernel
theorem dX12_readsTurn_2 : decode cX12_readsTurn 2 = .ok (.invokevirtual 191, 3) := by decide +kernel
theorem dX12_readsTurn_5 : decode cX12_readsTurn 5 = .ok (.ifCond .eq 28, 3) := by decide +kernel
theorem dX12_readsTurn_8 : decode cX12_readsTurn 8 = .ok (.aload_n 0, 1) := by decide +kernel
theorem dX12_readsTurn_9 : decode cX12_readsTurn 9 = .ok (.aload_n 0, 1) := by decide +kernel
theorem dX12_readsTurn_10 : decode cX12_readsTurn 10 = .ok (.aload_n 0, 1) := by decide +kernel
theorem dX12_readsTurn_11 : decode cX12_readsTurn 11 = .ok (.getfield 39, 3) := by decide +kernel
theorem dX12_readsTurn_14 : decode cX12_readsTurn 14 = .ok (.iconst 0, 1) := by decide +kernel
theorem dX12_readsTurn_15 : decode cX12_readsTurn 15 = .ok (.iaload, 1) := by decide +kernel
theorem dX12_readsTurn_16 : decode cX12_readsTurn 16 = .ok (.invokevirtual 73, 3) := by decide +kernel
theorem dX12_readsTurn_19 : decode cX12_readsTurn 19 = .ok (.ifCond .ne 7, 3) := by decide +kernel
theorem dX12_readsTurn_22 : decode cX12_readsTurn 22 = .ok (.iconst 1, 1) := by decide +kernel
theorem dX12_readsTurn_23 : decode cX12_readsTurn 23 = .ok (.goto 4, 3) := by decide +kernel
theorem dX12_readsTurn_26 : decode cX12_readsTurn 26 = .ok (.iconst 0, 1) := by decide +kernel
theorem dX12_readsTurn_27 : decode cX12_readsTurn 27 = .ok (.invokevirtual 184, 3) := by decide +kernel
theorem dX12_readsTurn_30 : decode cX12_readsTurn 30 = .ok (.ifCond .ne 5, 3) := by decide +kernel
theorem dX12_readsTurn_33 : decode cX12_readsTurn 33 = .ok (.iconst 0, 1) := by decide +kernel
theorem dX12_readsTurn_34 : decode cX12_readsTurn 34 = .ok (.ireturn, 1) := by decide +kernel
theorem dX12_readsTurn_35 : decode cX12_readsTurn 35 = .ok (.aload_n 0, 1) := by decide +kernel
theorem dX12_readsTurn_36 : decode cX12_readsTurn 36 = .ok (.aload_n 0, 1) := by decide +kernel
theorem dX12_readsTurn_37 : decode cX12_readsTurn 37 = .ok (.getfield 39, 3) := by decide +kernel
theorem dX12_readsTurn_40 : decode cX12_readsTurn 40 = .ok (.iconst 0, 1) := by decide +kernel
theorem dX12_readsTurn_41 : decode cX12_readsTurn 41 = .ok (.iaload, 1) := by decide +kernel
theorem dX12_readsTurn_42 : decode cX12_readsTurn 42 = .ok (.invokevirtual 207, 3) := by decide +kernel
theorem dX12_readsTurn_45 : decode cX12_readsTurn 45 = .ok (.pop, 1) := by decide +kernel
theorem dX12_readsTurn_46 : decode cX12_readsTurn 46 = .ok (.iconst 1, 1) := by decide +kernel
theorem dX12_readsTurn_47 : decode cX12_readsTurn 47 = .ok (.ireturn, 1) := by decide +kernel
theorem dX12_readsDischarge_0 : decode cX12_readsDischarge 0 = .ok (.aload_n 0, 1) := by decide +kernel
theorem dX12_readsDischarge_1 : decode cX12_readsDischarge 1 = .ok (.iconst 0, 1) := by decide +kernel
theorem dX12_readsDischarge_2 : decode cX12_readsDischarge 2 = .ok (.invokevirtual 191, 3) := by decide +kernel
theorem dX12_readsDischarge_5 : decode cX12_readsDischarge 5 = .ok (.ifCond .eq 28, 3) := by decide +kernel
theorem dX12_readsDischarge_8 : decode cX12_readsDischarge 8 = .ok (.aload_n 0, 1) := by decide +kernel
theorem dX12_readsDischarge_9 : decode cX12_readsDischarge 9 = .ok (.aload_n 0, 1) := by decide +kernel
theorem dX12_readsDischarge_10 : decode cX12_readsDischarge 10 = .ok (.aload_n 0, 1) := by decide +kernel
theorem dX12_readsDischarge_11 : decode cX12_readsDischarge 11 = .ok (.getfield 39, 3) := by decide +kernel
theorem dX12_readsDischarge_14 : decode cX12_readsDischarge 14 = .ok (.iconst 0, 1) := by decide +kernel
theorem dX12_readsDischarge_15 : decode cX12_readsDischarge 15 = .ok (.iaload, 1) := by decide +kernel
theorem dX12_readsDischarge_16 : decode cX12_readsDischarge 16 = .ok (.invokevirtual 210, 3) := by decide +kernel
theorem dX12_readsDischarge_19 : decode cX12_readsDischarge 19 = .ok (.ifCond .ne 7, 3) := by decide +kernel
theorem dX12_readsDischarge_22 : decode cX12_readsDischarge 22 = .ok (.iconst 1, 1) := by decide +kernel
theorem dX12_readsDischarge_23 : decode cX12_readsDischarge 23 = .ok (.goto 4, 3) := by decide +kernel
theorem dX12_readsDischarge_26 : decode cX12_readsDischarge 26 = .ok (.iconst 0, 1) := by decide +kernel
theorem dX12_readsDischarge_27 : decode cX12_readsDischarge 27 = .ok (.invokevirtual 184, 3) := by decide +kernel
theorem dX12_readsDischarge_30 : decode cX12_readsDischarge 30 = .ok (.ifCond .ne 5, 3) := by decide +kernel
theorem dX12_readsDischarge_33 : decode cX12_readsDischarge 33 = .ok (.iconst 0, 1) := by decide +kernel
theorem dX12_readsDischarge_34 : decode cX12_readsDischarge 34 = .ok (.ireturn, 1) := by decide +kernel
theorem dX12_readsDischarge_35 : decode cX12_readsDischarge 35 = .ok (.aload_n 0, 1) := by decide +kernel
theorem dX12_readsDischarge_36 : decode cX12_readsDischarge 36 = .ok (.aload_n 0, 1) := by decide +kernel
theorem dX12_readsDischarge_37 : decode cX12_readsDischarge 37 = .ok (.getfield 39, 3) := by decide +kernel
theorem dX12_readsDischarge_40 : decode cX12_readsDischarge 40 = .ok (.iconst 0, 1) := by decide +kernel
theorem dX12_readsDischarge_41 : decode cX12_readsDischarge 41 = .ok (.iaload, 1) := by decide +kernel
theorem dX12_readsDischarge_42 : decode cX12_readsDischarge 42 = .ok (.invokevirtual 213, 3) := by decide +kernel
theorem dX12_readsDischarge_45 : decode cX12_readsDischarge 45 = .ok (.pop, 1) := by decide +kernel
theorem dX12_readsDischarge_46 : decode cX12_readsDischarge 46 = .ok (.iconst 1, 1) := by decide +kernel
theorem dX12_readsDischarge_47 : decode cX12_readsDischarge 47 = .ok (.ireturn, 1) := by decide +kernel
theorem dX12_readsDiscard_0 : decode cX12_readsDiscard 0 = .ok (.aload_n 0, 1) := by decide +kernel
theorem dX12_readsDiscard_1 : decode cX12_readsDiscard 1 = .ok (.iconst 0, 1) := by decide +kernel
theorem dX12_readsDiscard_2 : decode cX12_readsDiscard 2 = .ok (.invokevirtual 191, 3) := by decide +kernel
theorem dX12_readsDiscard_5 : decode cX12_readsDiscard 5 = .ok (.ifCond .eq 28, 3) := by decide +kernel
theorem dX12_readsDiscard_8 : decode cX12_readsDiscard 8 = .ok (.aload_n 0, 1) := by decide +kernel
theorem dX12_readsDiscard_9 : decode cX12_readsDiscard 9 = .ok (.aload_n 0, 1) := by decide +kernel
theorem dX12_readsDiscard_10 : decode cX12_readsDiscard 10 = .ok (.aload_n 0, 1) := by decide +kernel
theorem dX12_readsDiscard_11 : decode cX12_readsDiscard 11 = .ok (.getfield 39, 3) := by decide +kernel
theorem dX12_readsDiscard_14 : decode cX12_readsDiscard 14 = .ok (.iconst 0, 1) := by decide +kernel
theorem dX12_readsDiscard_15 : decode cX12_readsDiscard 15 = .ok (.iaload, 1) := by decide +kernel
theorem dX12_readsDiscard_16 : decode cX12_readsDiscard 16 = .ok (.invokevirtual 73, 3) := by decide +kernel
theorem dX12_readsDiscard_19 : decode cX12_readsDiscard 19 = .ok (.ifCond .ne 7, 3) := by decide +kernel
theorem dX12_readsDiscard_22 : decode cX12_readsDiscard 22 = .ok (.iconst 1, 1) := by decide +kernel
theorem dX12_readsDiscard_23 : decode cX12_readsDiscard 23 = .ok (.goto 4, 3) := by decide +kernel
theorem dX12_readsDiscard_26 : decode cX12_readsDiscard 26 = .ok (.iconst 0, 1) := by decide +kernel
theorem dX12_readsDiscard_27 : decode cX12_readsDiscard 27 = .ok (.invokevirtual 184, 3) := by decide +kernel
theorem dX12_readsDiscard_30 : decode cX12_readsDiscard 30 = .ok (.ifCond .ne 5, 3) := by decide +kernel
theorem dX12_readsDiscard_33 : decode cX12_readsDiscard 33 = .ok (.iconst 0, 1) := by decide +kernel
theorem dX12_readsDiscard_34 : decode cX12_readsDiscard 34 = .ok (.ireturn, 1) := by decide +kernel
theorem dX12_readsDiscard_35 : decode cX12_readsDiscard 35 = .ok (.aload_n 0, 1) := by decide +kernel
theorem dX12_readsDiscard_36 : decode cX12_readsDiscard 36 = .ok (.aload_n 0, 1) := by decide +kernel
theorem dX12_readsDiscard_37 : decode cX12_readsDiscard 37 = .ok (.getfield 39, 3) := by decide +kernel
theorem dX12_readsDiscard_40 : decode cX12_readsDiscard 40 = .ok (.iconst 0, 1) := by decide +kernel
theorem dX12_readsDiscard_41 : decode cX12_readsDiscard 41 = .ok (.iaload, 1) := by decide +kernel
theorem dX12_readsDiscard_42 : decode cX12_readsDiscard 42 = .ok (.bipush 13, 2) := by decide +kernel
theorem dX12_readsDiscard_44 : decode cX12_readsDiscard 44 = .ok (.invokevirtual 135, 3) := by decide +kernel
theorem dX12_readsDiscard_47 : decode cX12_readsDiscard 47 = .ok (.pop, 1) := by decide +kernel
theorem dX12_readsDiscard_48 : decode cX12_readsDiscard 48 = .ok (.iconst 1, 1) := by decide +kernel
theorem dX12_readsDiscard_49 : decode cX12_readsDiscard 49 = .ok (.ireturn, 1) := by decide +kernel
theorem dX12_readsProbe_0 : decode cX12_readsProbe 0 = .ok (.aload_n 0, 1) := by decide +kernel
theorem dX12_readsProbe_1 : decode cX12_readsProbe 1 = .ok (.iconst 0, 1) := by decide +kernel
theorem dX12_readsProbe_2 : decode cX12_readsProbe 2 = .ok (.invokevirtual 191, 3) := by decide +kernel
theorem dX12_readsProbe_5 : decode cX12_readsProbe 5 = .ok (.ifCond .ne 5, 3) := by decide +kernel
theorem dX12_readsProbe_8 : decode cX12_readsProbe 8 = .ok (.iconst 0, 1) := by decide +kernel
theorem dX12_readsProbe_9 : decode cX12_readsProbe 9 = .ok (.ireturn, 1) := by decide +kernel
theorem dX12_readsProbe_10 : decode cX12_readsProbe 10 = .ok (.aload_n 0, 1) := by decide +kernel
theorem dX12_readsProbe_11 : decode cX12_readsProbe 11 = .ok (.ldc 216, 2) := by decide +kernel
theorem dX12_readsProbe_13 : decode cX12_readsProbe 13 = .ok (.ldc 218, 2) := by decide +kernel
theorem dX12_readsProbe_15 : decode cX12_readsProbe 15 = .ok (.invokevirtual 220, 3) := by decide +kernel
theorem dX12_readsProbe_18 : decode cX12_readsProbe 18 = .ok (.istore_n 1, 1) := by decide +kernel
theorem dX12_readsProbe_19 : decode cX12_readsProbe 19 = .ok (.iload_n 1, 1) := by decide +kernel
theorem dX12_readsProbe_20 : decode cX12_readsProbe 20 = .ok (.iconst (-1), 1) := by decide +kernel
theorem dX12_readsProbe_21 : decode cX12_readsProbe 21 = .ok (.if_icmp .ne 7, 3) := by decide +kernel
theorem dX12_readsProbe_24 : decode cX12_readsProbe 24 = .ok (.iconst (-1), 1) := by decide +kernel
theorem dX12_readsProbe_25 : decode cX12_readsProbe 25 = .ok (.goto 11, 3) := by decide +kernel
theorem dX12_readsProbe_28 : decode cX12_readsProbe 28 = .ok (.aload_n 0, 1) := by decide +kernel
theorem dX12_readsProbe_29 : decode cX12_readsProbe 29 = .ok (.ldc 224, 2) := by decide +kernel
theorem dX12_readsProbe_31 : decode cX12_readsProbe 31 = .ok (.ldc 226, 2) := by decide +kernel
theorem dX12_readsProbe_33 : decode cX12_readsProbe 33 = .ok (.invokevirtual 220, 3) := by decide +kernel
theorem dX12_readsProbe_36 : decode cX12_readsProbe 36 = .ok (.istore_n 2, 1) := by decide +kernel
theorem dX12_readsProbe_37 : decode cX12_readsProbe 37 = .ok (.iload_n 2, 1) := by decide +kernel
theorem dX12_readsProbe_38 : decode cX12_readsProbe 38 = .ok (.iconst (-1), 1) := by decide +kernel
theorem dX12_readsProbe_39 : decode cX12_readsProbe 39 = .ok (.if_icmp .eq 38, 3) := by decide +kernel
theorem dX12_readsProbe_42 : decode cX12_readsProbe 42 = .ok (.aload_n 0, 1) := by decide +kernel
theorem dX12_readsProbe_43 : decode cX12_readsProbe 43 = .ok (.iconst 1, 1) := by decide +kernel
theorem dX12_readsProbe_44 : decode cX12_readsProbe 44 = .ok (.iconst 0, 1) := by decide +kernel
theorem dX12_readsProbe_45 : decode cX12_readsProbe 45 = .ok (.bipush 50, 2) := by decide +kernel
theorem dX12_readsProbe_47 : decode cX12_readsProbe 47 = .ok (.invokevirtual 177, 3) := by decide +kernel
theorem dX12_readsProbe_50 : decode cX12_readsProbe 50 = .ok (.ifCond .eq 27, 3) := by decide +kernel
theorem dX12_readsProbe_53 : decode cX12_readsProbe 53 = .ok (.aload_n 0, 1) := by decide +kernel
theorem dX12_readsProbe_54 : decode cX12_readsProbe 54 = .ok (.aload_n 0, 1) := by decide +kernel
theorem dX12_readsProbe_55 : decode cX12_readsProbe 55 = .ok (.getfield 7, 3) := by decide +kernel
theorem dX12_readsProbe_58 : decode cX12_readsProbe 58 = .ok (.bipush 10, 2) := by decide +kernel
theorem dX12_readsProbe_60 : decode cX12_readsProbe 60 = .ok (.iaload, 1) := by decide +kernel
theorem dX12_readsProbe_61 : decode cX12_readsProbe 61 = .ok (.bipush 6, 2) := by decide +kernel
theorem dX12_readsProbe_63 : decode cX12_readsProbe 63 = .ok (.if_icmp .ge 7, 3) := by decide +kernel
theorem dX12_readsProbe_66 : decode cX12_readsProbe 66 = .ok (.iconst 1, 1) := by decide +kernel
theorem dX12_readsProbe_67 : decode cX12_readsProbe 67 = .ok (.goto 4, 3) := by decide +kernel
theorem dX12_readsProbe_70 : decode cX12_readsProbe 70 = .ok (.iconst 0, 1) := by decide +kernel
theorem dX12_readsProbe_71 : decode cX12_readsProbe 71 = .ok (.invokevirtual 184, 3) := by decide +kernel
theorem dX12_readsProbe_74 : decode cX12_readsProbe 74 = .ok (.ifCond .ne 5, 3) := by decide +kernel
theorem dX12_readsProbe_77 : decode cX12_readsProbe 77 = .ok (.iconst 0, 1) := by decide +kernel
theorem dX12_readsProbe_78 : decode cX12_readsProbe 78 = .ok (.ireturn, 1) := by decide +kernel
theorem dX12_readsProbe_79 : decode cX12_readsProbe 79 = .ok (.aload_n 0, 1) := by decide +kernel
theorem dX12_readsProbe_80 : decode cX12_readsProbe 80 = .ok (.aload_n 0, 1) := by decide +kernel
theorem dX12_readsProbe_81 : decode cX12_readsProbe 81 = .ok (.getfield 39, 3) := by decide +kernel
theorem dX12_readsProbe_84 : decode cX12_readsProbe 84 = .ok (.iconst 0, 1) := by decide +kernel
theorem dX12_readsProbe_85 : decode cX12_readsProbe 85 = .ok (.iaload, 1) := by decide +kernel
theorem dX12_readsProbe_86 : decode cX12_readsProbe 86 = .ok (.iload_n 1, 1) := by decide +kernel
theorem dX12_readsProbe_87 : decode cX12_readsProbe 87 = .ok (.iload_n 2, 1) := by decide +kernel
theorem dX12_readsProbe_88 : decode cX12_readsProbe 88 = .ok (.iconst 1, 1) := by decide +kernel
theorem dX12_readsProbe_89 : decode cX12_readsProbe 89 = .ok (.if_icmp .ne 13, 3) := by decide +kernel
theorem dX12_readsProbe_92 : decode cX12_readsProbe 92 = .ok (.aload_n 0, 1) := by decide +kernel
theorem dX12_readsProbe_93 : decode cX12_readsProbe 93 = .ok (.getfield 39, 3) := by decide +kernel
theorem dX12_readsProbe_96 : decode cX12_readsProbe 96 = .ok (.iconst 1, 1) := by decide +kernel
theorem dX12_readsProbe_97 : decode cX12_readsProbe 97 = .ok (.iaload, 1) := by decide +kernel
theorem dX12_readsProbe_98 : decode cX12_readsProbe 98 = .ok (.ineg, 1) := by decide +kernel
theorem dX12_readsProbe_99 : decode cX12_readsProbe 99 = .ok (.goto 9, 3) := by decide +kernel
theorem dX12_readsProbe_102 : decode cX12_readsProbe 102 = .ok (.aload_n 0, 1) := by decide +kernel
theorem dX12_readsProbe_103 : decode cX12_readsProbe 103 = .ok (.getfield 39, 3) := by decide +kernel
theorem dX12_readsProbe_106 : decode cX12_readsProbe 106 = .ok (.iconst 1, 1) := by decide +kernel
theorem dX12_readsProbe_107 : decode cX12_readsProbe 107 = .ok (.iaload, 1) := by decide +kernel
theorem dX12_readsProbe_108 : decode cX12_readsProbe 108 = .ok (.invokevirtual 228, 3) := by decide +kernel
theorem dX12_readsProbe_111 : decode cX12_readsProbe 111 = .ok (.pop, 1) := by decide +kernel
theorem dX12_readsProbe_112 : decode cX12_readsProbe 112 = .ok (.iconst 1, 1) := by decide +kernel
theorem dX12_readsProbe_113 : decode cX12_readsProbe 113 = .ok (.ireturn, 1) := by decide +kernel
theorem dX12_readsCalibrate_0 : decode cX12_readsCalibrate 0 = .ok (.aload_n 0, 1) := by decide +kernel
theorem dX12_readsCalibrate_1 : decode cX12_readsCalibrate 1 = .ok (.iconst 0, 1) := by decide +kernel
theorem dX12_readsCalibrate_2 : decode cX12_readsCalibrate 2 = .ok (.iconst 0, 1) := by decide +kernel
theorem dX12_readsCalibrate_3 : decode cX12_readsCalibrate 3 = .ok (.aload_n 0, 1) := by decide +kernel
theorem dX12_readsCalibrate_4 : decode cX12_readsCalibrate 4 = .ok (.getfield 7, 3) := by decide +kernel
theorem dX12_readsCalibrate_7 : decode cX12_readsCalibrate 7 = .ok (.bipush 10, 2) := by decide +kernel
theorem dX12_readsCalibrate_9 : decode cX12_readsCalibrate 9 = .ok (.iaload, 1) := by decide +kernel
theorem dX12_readsCalibrate_10 : decode cX12_readsCalibrate 10 = .ok (.iconst 1, 1) := by decide +kernel
theorem dX12_readsCalibrate_11 : decode cX12_readsCalibrate 11 = .ok (.isub, 1) := by decide +kernel
theorem dX12_readsCalibrate_12 : decode cX12_readsCalibrate 12 = .ok (.invokevirtual 177, 3) := by decide +kernel
theorem dX12_readsCalibrate_15 : decode cX12_readsCalibrate 15 = .ok (.ifCond .eq 11, 3) := by decide +kernel
theorem dX12_readsCalibrate_18 : decode cX12_readsCalibrate 18 = .ok (.aload_n 0, 1) := by decide +kernel
theorem dX12_readsCalibrate_19 : decode cX12_readsCalibrate 19 = .ok (.iconst 1, 1) := by decide +kernel
theorem dX12_readsCalibrate_20 : decode cX12_readsCalibrate 20 = .ok (.invokevirtual 184, 3) := by decide +kernel
theorem dX12_readsCalibrate_23 : decode cX12_readsCalibrate 23 = .ok (.ifCond .ne 5, 3) := by decide +kernel
theorem dX12_readsCalibrate_26 : decode cX12_readsCalibrate 26 = .ok (.iconst 0, 1) := by decide +kernel
theorem dX12_readsCalibrate_27 : decode cX12_readsCalibrate 27 = .ok (.ireturn, 1) := by decide +kernel
theorem dX12_readsCalibrate_28 : decode cX12_readsCalibrate 28 = .ok (.aload_n 0, 1) := by decide +kernel
theorem dX12_readsCalibrate_29 : decode cX12_readsCalibrate 29 = .ok (.getfield 7, 3) := by decide +kernel
theorem dX12_readsCalibrate_32 : decode cX12_readsCalibrate 32 = .ok (.bipush 89, 2) := by decide +kernel
theorem dX12_readsCalibrate_34 : decode cX12_readsCalibrate 34 = .ok (.iconst 3, 1) := by decide +kernel
theorem dX12_readsCalibrate_35 : decode cX12_readsCalibrate 35 = .ok (.aload_n 0, 1) := by decide +kernel
theorem dX12_readsCalibrate_36 : decode cX12_readsCalibrate 36 = .ok (.getfield 39, 3) := by decide +kernel
theorem dX12_readsCalibrate_39 : decode cX12_readsCalibrate 39 = .ok (.iconst 0, 1) := by decide +kernel
theorem dX12_readsCalibrate_40 : decode cX12_readsCalibrate 40 = .ok (.iaload, 1) := by decide +kernel
theorem dX12_readsCalibrate_41 : decode cX12_readsCalibrate 41 = .ok (.imul, 1) := by decide +kernel
theorem dX12_readsCalibrate_42 : decode cX12_readsCalibrate 42 = .ok (.iadd, 1) := by decide +kernel
theorem dX12_readsCalibrate_43 : decode cX12_readsCalibrate 43 = .ok (.iconst 2, 1) := by decide +kernel
theorem dX12_readsCalibrate_44 : decode cX12_readsCalibrate 44 = .ok (.iadd, 1) := by decide +kernel
theorem dX12_readsCalibrate_45 : decode cX12_readsCalibrate 45 = .ok (.iconst 0, 1) := by decide +kernel
theorem dX12_readsCalibrate_46 : decode cX12_readsCalibrate 46 = .ok (.iastore, 1) := by decide +kernel
theorem dX12_readsCalibrate_47 : decode cX12_readsCalibrate 47 = .ok (.iconst 1, 1) := by decide +kernel
theorem dX12_readsCalibrate_48 : decode cX12_readsCalibrate 48 = .ok (.ireturn, 1) := by decide +kernel
theorem dX12_readsHours_0 : decode cX12_readsHours 0 = .ok (.aload_n 0, 1) := by decide +kernel
theorem dX12_readsHours_1 : decode cX12_readsHours 1 = .ok (.iconst 0, 1) := by decide +kernel
theorem dX12_readsHours_2 : decode cX12_readsHours 2 = .ok (.iconst 1, 1) := by decide +kernel
theorem dX12_readsHours_3 : decode cX12_readsHours 3 = .ok (.sipush 200, 3) := by decide +kernel
theorem dX12_readsHours_6 : decode cX12_readsHours 6 = .ok (.invokevirtual 177, 3) := by decide +kernel
theorem dX12_readsHours_9 : decode cX12_readsHours 9 = .ok (.ifCond .eq 34, 3) := by decide +kernel
theorem dX12_readsHours_12 : decode cX12_readsHours 12 = .ok (.aload_n 0, 1) := by decide +kernel
theorem dX12_readsHours_13 : decode cX12_readsHours 13 = .ok (.aload_n 0, 1) := by decide +kernel
theorem dX12_readsHours_14 : decode cX12_readsHours 14 = .ok (.getfield 7, 3) := by decide +kernel
theorem dX12_readsHours_17 : decode cX12_readsHours 17 = .ok (.iconst 0, 1) := by decide +kernel
theorem dX12_readsHours_18 : decode cX12_readsHours 18 = .ok (.iaload, 1) := by decide +kernel
theorem dX12_readsHours_19 : decode cX12_readsHours 19 = .ok (.aload_n 0, 1) := by decide +kernel
theorem dX12_readsHours_20 : decode cX12_readsHours 20 = .ok (.getfield 39, 3) := by decide +kernel
theorem dX12_readsHours_23 : decode cX12_readsHours 23 = .ok (.iconst 0, 1) := by decide +kernel
theorem dX12_readsHours_24 : decode cX12_readsHours 24 = .ok (.iaload, 1) := by decide +kernel
theorem dX12_readsHours_25 : decode cX12_readsHours 25 = .ok (.iadd, 1) := by decide +kernel
theorem dX12_readsHours_26 : decode cX12_readsHours 26 = .ok (.sipush 2000, 3) := by decide +kernel
theorem dX12_readsHours_29 : decode cX12_readsHours 29 = .ok (.if_icmp .gt 7, 3) := by decide +kernel
theorem dX12_readsHours_32 : decode cX12_readsHours 32 = .ok (.iconst 1, 1) := by decide +kernel
theorem dX12_readsHours_33 : decode cX12_readsHours 33 = .ok (.goto 4, 3) := by decide +kernel
theorem dX12_readsHours_36 : decode cX12_readsHours 36 = .ok (.iconst 0, 1) := by decide +kernel
theorem dX12_readsHours_37 : decode cX12_readsHours 37 = .ok (.invokevirtual 184, 3) := by decide +kernel
theorem dX12_readsHours_40 : decode cX12_readsHours 40 = .ok (.ifCond .ne 5, 3) := by decide +kernel
theorem dX12_readsHours_43 : decode cX12_readsHours 43 = .ok (.iconst 0, 1) := by decide +kernel
theorem dX12_readsHours_44 : decode cX12_readsHours 44 = .ok (.ireturn, 1) := by decide +kernel
theorem dX12_readsHours_45 : decode cX12_readsHours 45 = .ok (.aload_n 0, 1) := by decide +kernel
theorem dX12_readsHours_46 : decode cX12_readsHours 46 = .ok (.aload_n 0, 1) := by decide +kernel
theorem dX12_readsHours_47 : decode cX12_readsHours 47 = .ok (.getfield 39, 3) := by decide +kernel
theorem dX12_readsHours_50 : decode cX12_readsHours 50 = .ok (.iconst 0, 1) := by decide +kernel
theorem dX12_readsHours_51 : decode cX12_readsHours 51 = .ok (.iaload, 1) := by decide +kernel
theorem dX12_readsHours_52 : decode cX12_readsHours 52 = .ok (.invokevirtual 231, 3) := by decide +kernel
theorem dX12_readsHours_55 : decode cX12_readsHours 55 = .ok (.pop, 1) := by decide +kernel
theorem dX12_readsHours_56 : decode cX12_readsHours 56 = .ok (.iconst 1, 1) := by decide +kernel
theorem dX12_readsHours_57 : decode cX12_readsHours 57 = .ok (.ireturn, 1) := by decide +kernel
theorem dX12_readsRepeat_0 : decode cX12_readsRepeat 0 = .ok (.aload_n 0, 1) := by decide +kernel
theorem dX12_readsRepeat_1 : decode cX12_readsRepeat 1 = .ok (.iconst 0, 1) := by decide +kernel
theorem dX12_readsRepeat_2 : decode cX12_readsRepeat 2 = .ok (.iconst 1, 1) := by decide +kernel
theorem dX12_readsRepeat_3 : decode cX12_readsRepeat 3 = .ok (.bipush 20, 2) := by decide +kernel
theorem dX12_readsRepeat_5 : decode cX12_readsRepeat 5 = .ok (.invokevirtual 177, 3) := by decide +kernel
theorem dX12_readsRepeat_8 : decode cX12_readsRepeat 8 = .ok (.ifCond .eq 11, 3) := by decide +kernel
theorem dX12_readsRepeat_11 : decode cX12_readsRepeat 11 = .ok (.aload_n 0, 1) := by decide +kernel
theorem dX12_readsRepeat_12 : decode cX12_readsRepeat 12 = .ok (.iconst 4, 1) := by decide +kernel
theorem dX12_readsRepeat_13 : decode cX12_readsRepeat 13 = .ok (.invokevirtual 171, 3) := by decide +kernel
theorem dX12_readsRepeat_16 : decode cX12_readsRepeat 16 = .ok (.ifCond .ne 5, 3) := by decide +kernel
theorem dX12_readsRepeat_19 : decode cX12_readsRepeat 19 = .ok (.iconst 0, 1) := by decide +kernel
theorem dX12_readsRepeat_20 : decode cX12_readsRepeat 20 = .ok (.ireturn, 1) := by decide +kernel
theorem dX12_readsRepeat_21 : decode cX12_readsRepeat 21 = .ok (.aload_n 0, 1) := by decide +kernel
theorem dX12_readsRepeat_22 : decode cX12_readsRepeat 22 = .ok (.getfield 39, 3) := by decide +kernel
theorem dX12_readsRepeat_25 : decode cX12_readsRepeat 25 = .ok (.iconst 0, 1) := by decide +kernel
theorem dX12_readsRepeat_26 : decode cX12_readsRepeat 26 = .ok (.iaload, 1) := by decide +kernel
theorem dX12_readsRepeat_27 : decode cX12_readsRepeat 27 = .ok (.istore_n 2, 1) := by decide +kernel
theorem dX12_readsRepeat_28 : decode cX12_readsRepeat 28 = .ok (.aload_n 0, 1) := by decide +kernel
theorem dX12_readsRepeat_29 : decode cX12_readsRepeat 29 = .ok (.getfield 150, 3) := by decide +kernel
theorem dX12_readsRepeat_32 : decode cX12_readsRepeat 32 = .ok (.istore_n 3, 1) := by decide +kernel
theorem dX12_readsRepeat_33 : decode cX12_readsRepeat 33 = .ok (.iconst 0, 1) := by decide +kernel
theorem dX12_readsRepeat_34 : decode cX12_readsRepeat 34 = .ok (.istore 4, 2) := by decide +kernel
theorem dX12_readsRepeat_36 : decode cX12_readsRepeat 36 = .ok (.iload 4, 2) := by decide +kernel
theorem dX12_readsRepeat_38 : decode cX12_readsRepeat 38 = .ok (.iload_n 2, 1) := by decide +kernel
theorem dX12_readsRepeat_39 : decode cX12_readsRepeat 39 = .ok (.if_icmp .ge 45, 3) := by decide +kernel
theorem dX12_readsRepeat_42 : decode cX12_readsRepeat 42 = .ok (.aload_n 0, 1) := by decide +kernel
theorem dX12_readsRepeat_43 : decode cX12_readsRepeat 43 = .ok (.iload_n 3, 1) := by decide +kernel
theorem dX12_readsRepeat_44 : decode cX12_readsRepeat 44 = .ok (.putfield 150, 3) := by decide +kernel
theorem dX12_readsRepeat_47 : decode cX12_readsRepeat 47 = .ok (.aload_n 0, 1) := by decide +kernel
theorem dX12_readsRepeat_48 : decode cX12_readsRepeat 48 = .ok (.invokevirtual 174, 3) := by decide +kernel
theorem dX12_readsRepeat_51 : decode cX12_readsRepeat 51 = .ok (.aload_n 0, 1) := by decide +kernel
theorem dX12_readsRepeat_52 : decode cX12_readsRepeat 52 = .ok (.getfield 156, 3) := by decide +kernel
theorem dX12_readsRepeat_55 : decode cX12_readsRepeat 55 = .ok (.iconst 5, 1) := by decide +kernel
theorem dX12_readsRepeat_56 : decode cX12_readsRepeat 56 = .ok (.if_icmp .eq 22, 3) := by decide +kernel
theorem dX12_readsRepeat_59 : decode cX12_readsRepeat 59 = .ok (.aload_n 0, 1) := by decide +kernel
theorem dX12_readsRepeat_60 : decode cX12_readsRepeat 60 = .ok (.iload_n 1, 1) := by decide +kernel
theorem dX12_readsRepeat_61 : decode cX12_readsRepeat 61 = .ok (.iconst 1, 1) := by decide +kernel
theorem dX12_readsRepeat_62 : decode cX12_readsRepeat 62 = .ok (.iadd, 1) := by decide +kernel
theorem dX12_readsRepeat_63 : decode cX12_readsRepeat 63 = .ok (.invokevirtual 234, 3) := by decide +kernel
theorem dX12_readsRepeat_66 : decode cX12_readsRepeat 66 = .ok (.ifCond .ne 5, 3) := by decide +kernel
theorem dX12_readsRepeat_69 : decode cX12_readsRepeat 69 = .ok (.iconst 0, 1) := by decide +kernel
theorem dX12_readsRepeat_70 : decode cX12_readsRepeat 70 = .ok (.ireturn, 1) := by decide +kernel
theorem dX12_readsRepeat_71 : decode cX12_readsRepeat 71 = .ok (.aload_n 0, 1) := by decide +kernel
theorem dX12_readsRepeat_72 : decode cX12_readsRepeat 72 = .ok (.invokevirtual 174, 3) := by decide +kernel
theorem dX12_readsRepeat_75 : decode cX12_readsRepeat 75 = .ok (.goto (-24), 3) := by decide +kernel
theorem dX12_readsRepeat_78 : decode cX12_readsRepeat 78 = .ok (.iinc 4 1, 3) := by decide +kernel
theorem dX12_readsRepeat_81 : decode cX12_readsRepeat 81 = .ok (.goto (-45), 3) := by decide +kernel
theorem dX12_readsRepeat_84 : decode cX12_readsRepeat 84 = .ok (.aload_n 0, 1) := by decide +kernel
theorem dX12_readsRepeat_85 : decode cX12_readsRepeat 85 = .ok (.invokevirtual 174, 3) := by decide +kernel
theorem dX12_readsRepeat_88 : decode cX12_readsRepeat 88 = .ok (.aload_n 0, 1) := by decide +kernel
theorem dX12_readsRepeat_89 : decode cX12_readsRepeat 89 = .ok (.iconst 1, 1) := by decide +kernel
theorem dX12_readsRepeat_90 : decode cX12_readsRepeat 90 = .ok (.invokevirtual 171, 3) := by decide +kernel
theorem dX12_readsRepeat_93 : decode cX12_readsRepeat 93 = .ok (.ireturn, 1) := by decide +kernel
theorem dX12_wordAhead_0 : decode cX12_wordAhead 0 = .ok (.aload_n 0, 1) := by decide +kernel
theorem dX12_wordAhead_1 : decode cX12_wordAhead 1 = .ok (.ldc 237, 2) := by decide +kernel
theorem dX12_wordAhead_3 : decode cX12_wordAhead 3 = .ok (.invokevirtual 180, 3) := by decide +kernel
theorem dX12_wordAhead_6 : decode cX12_wordAhead 6 = .ok (.ifCond .eq 7, 3) := by decide +kernel
theorem dX12_wordAhead_9 : decode cX12_wordAhead 9 = .ok (.iconst 0, 1) := by decide +kernel
theorem dX12_wordAhead_10 : decode cX12_wordAhead 10 = .ok (.goto 100, 3) := by decide +kernel
theorem dX12_wordAhead_13 : decode cX12_wordAhead 13 = .ok (.aload_n 0, 1) := by decide +kernel
theorem dX12_wordAhead_14 : decode cX12_wordAhead 14 = .ok (.ldc 239, 2) := by decide +kernel
theorem dX12_wordAhead_16 : decode cX12_wordAhead 16 = .ok (.invokevirtual 180, 3) := by decide +kernel
theorem dX12_wordAhead_19 : decode cX12_wordAhead 19 = .ok (.ifCond .eq 7, 3) := by decide +kernel
theorem dX12_wordAhead_22 : decode cX12_wordAhead 22 = .ok (.iconst 1, 1) := by decide +kernel
theorem dX12_wordAhead_23 : decode cX12_wordAhead 23 = .ok (.goto 87, 3) := by decide +kernel
theorem dX12_wordAhead_26 : decode cX12_wordAhead 26 = .ok (.aload_n 0, 1) := by decide +kernel
theorem dX12_wordAhead_27 : decode cX12_wordAhead 27 = .ok (.ldc 241, 2) := by decide +kernel
theorem dX12_wordAhead_29 : decode cX12_wordAhead 29 = .ok (.invokevirtual 180, 3) := by decide +kernel
theorem dX12_wordAhead_32 : decode cX12_wordAhead 32 = .ok (.ifCond .eq 7, 3) := by decide +kernel
theorem dX12_wordAhead_35 : decode cX12_wordAhead 35 = .ok (.iconst 2, 1) := by decide +kernel
theorem dX12_wordAhead_36 : decode cX12_wordAhead 36 = .ok (.goto 74, 3) := by decide +kernel
theorem dX12_wordAhead_39 : decode cX12_wordAhead 39 = .ok (.aload_n 0, 1) := by decide +kernel
theorem dX12_wordAhead_40 : decode cX12_wordAhead 40 = .ok (.ldc 243, 2) := by decide +kernel
theorem dX12_wordAhead_42 : decode cX12_wordAhead 42 = .ok (.invokevirtual 180, 3) := by decide +kernel
theorem dX12_wordAhead_45 : decode cX12_wordAhead 45 = .ok (.ifCond .eq 7, 3) := by decide +kernel
theorem dX12_wordAhead_48 : decode cX12_wordAhead 48 = .ok (.iconst 3, 1) := by decide +kernel
theorem dX12_wordAhead_49 : decode cX12_wordAhead 49 = .ok (.goto 61, 3) := by decide +kernel
theorem dX12_wordAhead_52 : decode cX12_wordAhead 52 = .ok (.aload_n 0, 1) := by decide +kernel
theorem dX12_wordAhead_53 : decode cX12_wordAhead 53 = .ok (.ldc 245, 2) := by decide +kernel
theorem dX12_wordAhead_55 : decode cX12_wordAhead 55 = .ok (.invokevirtual 180, 3) := by decide +kernel
theorem dX12_wordAhead_58 : decode cX12_wordAhead 58 = .ok (.ifCond .eq 7, 3) := by decide +kernel
theorem dX12_wordAhead_61 : decode cX12_wordAhead 61 = .ok (.iconst 4, 1) := by decide +kernel
theorem dX12_wordAhead_62 : decode cX12_wordAhead 62 = .ok (.goto 48, 3) := by decide +kernel
theorem dX12_wordAhead_65 : decode cX12_wordAhead 65 = .ok (.aload_n 0, 1) := by decide +kernel
theorem dX12_wordAhead_66 : decode cX12_wordAhead 66 = .ok (.ldc 247, 2) := by decide +kernel
theorem dX12_wordAhead_68 : decode cX12_wordAhead 68 = .ok (.invokevirtual 180, 3) := by decide +kernel
theorem dX12_wordAhead_71 : decode cX12_wordAhead 71 = .ok (.ifCond .eq 7, 3) := by decide +kernel
theorem dX12_wordAhead_74 : decode cX12_wordAhead 74 = .ok (.iconst 5, 1) := by decide +kernel
theorem dX12_wordAhead_75 : decode cX12_wordAhead 75 = .ok (.goto 35, 3) := by decide +kernel
theorem dX12_wordAhead_78 : decode cX12_wordAhead 78 = .ok (.aload_n 0, 1) := by decide +kernel
theorem dX12_wordAhead_79 : decode cX12_wordAhead 79 = .ok (.ldc 249, 2) := by decide +kernel
theorem dX12_wordAhead_81 : decode cX12_wordAhead 81 = .ok (.invokevirtual 180, 3) := by decide +kernel
theorem dX12_wordAhead_84 : decode cX12_wordAhead 84 = .ok (.ifCond .eq 8, 3) := by decide +kernel
theorem dX12_wordAhead_87 : decode cX12_wordAhead 87 = .ok (.bipush 6, 2) := by decide +kernel
theorem dX12_wordAhead_89 : decode cX12_wordAhead 89 = .ok (.goto 21, 3) := by decide +kernel
theorem dX12_wordAhead_92 : decode cX12_wordAhead 92 = .ok (.aload_n 0, 1) := by decide +kernel
theorem dX12_wordAhead_93 : decode cX12_wordAhead 93 = .ok (.ldc 251, 2) := by decide +kernel
theorem dX12_wordAhead_95 : decode cX12_wordAhead 95 = .ok (.invokevirtual 180, 3) := by decide +kernel
theorem dX12_wordAhead_98 : decode cX12_wordAhead 98 = .ok (.ifCond .eq 8, 3) := by decide +kernel
theorem dX12_wordAhead_101 : decode cX12_wordAhead 101 = .ok (.bipush 7, 2) := by decide +kernel
theorem dX12_wordAhead_103 : decode cX12_wordAhead 103 = .ok (.goto 7, 3) := by decide +kernel
theorem dX12_wordAhead_106 : decode cX12_wordAhead 106 = .ok (.aload_n 0, 1) := by decide +kernel
theorem dX12_wordAhead_107 : decode cX12_wordAhead 107 = .ok (.invokevirtual 253, 3) := by decide +kernel
theorem dX12_wordAhead_110 : decode cX12_wordAhead 110 = .ok (.ireturn, 1) := by decide +kernel
theorem dX12_laterWord_0 : decode cX12_laterWord 0 = .ok (.aload_n 0, 1) := by decide +kernel
theorem dX12_laterWord_1 : decode cX12_laterWord 1 = .ok (.ldc_w 256, 3) := by decide +kernel
theorem dX12_laterWord_4 : decode cX12_laterWord 4 = .ok (.invokevirtual 180, 3) := by decide +kernel
theorem dX12_laterWord_7 : decode cX12_laterWord 7 = .ok (.ifCond .eq 8, 3) := by decide +kernel
theorem dX12_laterWord_10 : decode cX12_laterWord 10 = .ok (.bipush 8, 2) := by decide +kernel
theorem dX12_laterWord_12 : decode cX12_laterWord 12 = .ok (.goto 94, 3) := by decide +kernel
theorem dX12_laterWord_15 : decode cX12_laterWord 15 = .ok (.aload_n 0, 1) := by decide +kernel
theorem dX12_laterWord_16 : decode cX12_laterWord 16 = .ok (.ldc_w 258, 3) := by decide +kernel
theorem dX12_laterWord_19 : decode cX12_laterWord 19 = .ok (.invokevirtual 180, 3) := by decide +kernel
theorem dX12_laterWord_22 : decode cX12_laterWord 22 = .ok (.ifCond .eq 8, 3) := by decide +kernel
theorem dX12_laterWord_25 : decode cX12_laterWord 25 = .ok (.bipush 9, 2) := by decide +kernel
theorem dX12_laterWord_27 : decode cX12_laterWord 27 = .ok (.goto 79, 3) := by decide +kernel
theorem dX12_laterWord_30 : decode cX12_laterWord 30 = .ok (.aload_n 0, 1) := by decide +kernel
theorem dX12_laterWord_31 : decode cX12_laterWord 31 = .ok (.ldc_w 260, 3) := by decide +kernel
theorem dX12_laterWord_34 : decode cX12_laterWord 34 = .ok (.invokevirtual 180, 3) := by decide +kernel
theorem dX12_laterWord_37 : decode cX12_laterWord 37 = .ok (.ifCond .eq 8, 3) := by decide +kernel
theorem dX12_laterWord_40 : decode cX12_laterWord 40 = .ok (.bipush 10, 2) := by decide +kernel
theorem dX12_laterWord_42 : decode cX12_laterWord 42 = .ok (.goto 64, 3) := by decide +kernel
theorem dX12_laterWord_45 : decode cX12_laterWord 45 = .ok (.aload_n 0, 1) := by decide +kernel
theorem dX12_laterWord_46 : decode cX12_laterWord 46 = .ok (.ldc_w 262, 3) := by decide +kernel
theorem dX12_laterWord_49 : decode cX12_laterWord 49 = .ok (.invokevirtual 180, 3) := by decide +kernel
theorem dX12_laterWord_52 : decode cX12_laterWord 52 = .ok (.ifCond .eq 8, 3) := by decide +kernel
theorem dX12_laterWord_55 : decode cX12_laterWord 55 = .ok (.bipush 11, 2) := by decide +kernel
theorem dX12_laterWord_57 : decode cX12_laterWord 57 = .ok (.goto 49, 3) := by decide +kernel
theorem dX12_laterWord_60 : decode cX12_laterWord 60 = .ok (.aload_n 0, 1) := by decide +kernel
theorem dX12_laterWord_61 : decode cX12_laterWord 61 = .ok (.ldc_w 264, 3) := by decide +kernel
theorem dX12_laterWord_64 : decode cX12_laterWord 64 = .ok (.invokevirtual 180, 3) := by decide +kernel
theorem dX12_laterWord_67 : decode cX12_laterWord 67 = .ok (.ifCond .eq 8, 3) := by decide +kernel
theorem dX12_laterWord_70 : decode cX12_laterWord 70 = .ok (.bipush 12, 2) := by decide +kernel
theorem dX12_laterWord_72 : decode cX12_laterWord 72 = .ok (.goto 34, 3) := by decide +kernel
theorem dX12_laterWord_75 : decode cX12_laterWord 75 = .ok (.aload_n 0, 1) := by decide +kernel
theorem dX12_laterWord_76 : decode cX12_laterWord 76 = .ok (.ldc_w 266, 3) := by decide +kernel
theorem dX12_laterWord_79 : decode cX12_laterWord 79 = .ok (.invokevirtual 180, 3) := by decide +kernel
theorem dX12_laterWord_82 : decode cX12_laterWord 82 = .ok (.ifCond .eq 8, 3) := by decide +kernel
theorem dX12_laterWord_85 : decode cX12_laterWord 85 = .ok (.bipush 13, 2) := by decide +kernel
theorem dX12_laterWord_87 : decode cX12_laterWord 87 = .ok (.goto 19, 3) := by decide +kernel
theorem dX12_laterWord_90 : decode cX12_laterWord 90 = .ok (.aload_n 0, 1) := by decide +kernel
theorem dX12_laterWord_91 : decode cX12_laterWord 91 = .ok (.ldc_w 268, 3) := by decide +kernel
theorem dX12_laterWord_94 : decode cX12_laterWord 94 = .ok (.invokevirtual 180, 3) := by decide +kernel
theorem dX12_laterWord_97 : decode cX12_laterWord 97 = .ok (.ifCond .eq 8, 3) := by decide +kernel
theorem dX12_laterWord_100 : decode cX12_laterWord 100 = .ok (.bipush 14, 2) := by decide +kernel
theorem dX12_laterWord_102 : decode cX12_laterWord 102 = .ok (.goto 4, 3) := by decide +kernel
theorem dX12_laterWord_105 : decode cX12_laterWord 105 = .ok (.iconst (-1), 1) := by decide +kernel
theorem dX12_laterWord_106 : decode cX12_laterWord 106 = .ok (.ireturn, 1) := by decide +kernel
theorem dX12_readsCommand_0 : decode cX12_readsCommand 0 = .ok (.aload_n 0, 1) := by decide +kernel
theorem dX12_readsCommand_1 : decode cX12_readsCommand 1 = .ok (.invokevirtual 270, 3) := by decide +kernel
theorem dX12_readsCommand_4 : decode cX12_readsCommand 4 = .ok (.istore_n 2, 1) := by decide +kernel
theorem dX12_readsCommand_5 : decode cX12_readsCommand 5 = .ok (.iload_n 2, 1) := by decide +kernel
theorem dX12_readsCommand_6 : decode cX12_readsCommand 6 = .ok (.iconst (-1), 1) := by decide +kernel
theorem dX12_readsCommand_7 : decode cX12_readsCommand 7 = .ok (.if_icmp .ne 9, 3) := by decide +kernel
theorem dX12_readsCommand_10 : decode cX12_readsCommand 10 = .ok (.aload_n 0, 1) := by decide +kernel
theorem dX12_readsCommand_11 : decode cX12_readsCommand 11 = .ok (.iconst 1, 1) := by decide +kernel
theorem dX12_readsCommand_12 : decode cX12_readsCommand 12 = .ok (.invokevirtual 168, 3) := by decide +kernel
theorem dX12_readsCommand_15 : decode cX12_readsCommand 15 = .ok (.ireturn, 1) := by decide +kernel
theorem dX12_readsCommand_16 : decode cX12_readsCommand 16 = .ok (.iload_n 2, 1) := by decide +kernel
theorem dX12_readsCommand_17 : decode cX12_readsCommand 17 = .ok (.bipush 14, 2) := by decide +kernel
theorem dX12_readsCommand_19 : decode cX12_readsCommand 19 = .ok (.if_icmp .ne 24, 3) := by decide +kernel
theorem dX12_readsCommand_22 : decode cX12_readsCommand 22 = .ok (.iload_n 1, 1) := by decide +kernel
theorem dX12_readsCommand_23 : decode cX12_readsCommand 23 = .ok (.iconst 2, 1) := by decide +kernel
theorem dX12_readsCommand_24 : decode cX12_readsCommand 24 = .ok (.if_icmp .ne 9, 3) := by decide +kernel
theorem dX12_readsCommand_27 : decode cX12_readsCommand 27 = .ok (.aload_n 0, 1) := by decide +kernel
theorem dX12_readsCommand_28 : decode cX12_readsCommand 28 = .ok (.iconst 4, 1) := by decide +kernel
theorem dX12_readsCommand_29 : decode cX12_readsCommand 29 = .ok (.invokevirtual 168, 3) := by decide +kernel
theorem dX12_readsCommand_32 : decode cX12_readsCommand 32 = .ok (.ireturn, 1) := by decide +kernel
theorem dX12_readsCommand_33 : decode cX12_readsCommand 33 = .ok (.aload_n 0, 1) := by decide +kernel
theorem dX12_readsCommand_34 : decode cX12_readsCommand 34 = .ok (.invokevirtual 174, 3) := by decide +kernel
theorem dX12_readsCommand_37 : decode cX12_readsCommand 37 = .ok (.aload_n 0, 1) := by decide +kernel
theorem dX12_readsCommand_38 : decode cX12_readsCommand 38 = .ok (.iload_n 1, 1) := by decide +kernel
theorem dX12_readsCommand_39 : decode cX12_readsCommand 39 = .ok (.invokevirtual 273, 3) := by decide +kernel
theorem dX12_readsCommand_42 : decode cX12_readsCommand 42 = .ok (.ireturn, 1) := by decide +kernel
theorem dX12_readsCommand_43 : decode cX12_readsCommand 43 = .ok (.aload_n 0, 1) := by decide +kernel
theorem dX12_readsCommand_44 : decode cX12_readsCommand 44 = .ok (.getfield 276, 3) := by decide +kernel
theorem dX12_readsCommand_47 : decode cX12_readsCommand 47 = .ok (.sipush 200, 3) := by decide +kernel
theorem dX12_readsCommand_50 : decode cX12_readsCommand 50 = .ok (.if_icmp .ne 9, 3) := by decide +kernel
theorem dX12_readsCommand_53 : decode cX12_readsCommand 53 = .ok (.aload_n 0, 1) := by decide +kernel
theorem dX12_readsCommand_54 : decode cX12_readsCommand 54 = .ok (.iconst 5, 1) := by decide +kernel
theorem dX12_readsCommand_55 : decode cX12_readsCommand 55 = .ok (.invokevirtual 168, 3) := by decide +kernel
theorem dX12_readsCommand_58 : decode cX12_readsCommand 58 = .ok (.ireturn, 1) := by decide +kernel
theorem dX12_readsCommand_59 : decode cX12_readsCommand 59 = .ok (.aload_n 0, 1) := by decide +kernel
theorem dX12_readsCommand_60 : decode cX12_readsCommand 60 = .ok (.dup, 1) := by decide +kernel
theorem dX12_readsCommand_61 : decode cX12_readsCommand 61 = .ok (.getfield 276, 3) := by decide +kernel
theorem dX12_readsCommand_64 : decode cX12_readsCommand 64 = .ok (.iconst 1, 1) := by decide +kernel
theorem dX12_readsCommand_65 : decode cX12_readsCommand 65 = .ok (.iadd, 1) := by decide +kernel
theorem dX12_readsCommand_66 : decode cX12_readsCommand 66 = .ok (.putfield 276, 3) := by decide +kernel
theorem dX12_readsCommand_69 : decode cX12_readsCommand 69 = .ok (.aload_n 0, 1) := by decide +kernel
theorem dX12_readsCommand_70 : decode cX12_readsCommand 70 = .ok (.invokevirtual 174, 3) := by decide +kernel
theorem dX12_readsCommand_73 : decode cX12_readsCommand 73 = .ok (.aload_n 0, 1) := by decide +kernel
theorem dX12_readsCommand_74 : decode cX12_readsCommand 74 = .ok (.iload_n 2, 1) := by decide +kernel
theorem dX12_readsCommand_75 : decode cX12_readsCommand 75 = .ok (.invokevirtual 279, 3) := by decide +kernel
theorem dX12_readsCommand_78 : decode cX12_readsCommand 78 = .ok (.ireturn, 1) := by decide +kernel
theorem dX12_readsWord_0 : decode cX12_readsWord 0 = .ok (.iload_n 1, 1) := by decide +kernel
theorem dX12_readsWord_1 : decode cX12_readsWord 1 = .ok (.tableswitch 140 0 12 #[67, 72, 77, 82, 87, 95, 105, 110, 115, 120, 125, 130, 135], 67) := by decide +kernel
theorem dX12_readsWord_68 : decode cX12_readsWord 68 = .ok (.aload_n 0, 1) := by decide +kernel
theorem dX12_readsWord_69 : decode cX12_readsWord 69 = .ok (.invokevirtual 282, 3) := by decide +kernel
theorem dX12_readsWord_72 : decode cX12_readsWord 72 = .ok (.ireturn, 1) := by decide +kernel
theorem dX12_readsWord_73 : decode cX12_readsWord 73 = .ok (.aload_n 0, 1) := by decide +kernel
theorem dX12_readsWord_74 : decode cX12_readsWord 74 = .ok (.invokevirtual 285, 3) := by decide +kernel
theorem dX12_readsWord_77 : decode cX12_readsWord 77 = .ok (.ireturn, 1) := by decide +kernel
theorem dX12_readsWord_78 : decode cX12_readsWord 78 = .ok (.aload_n 0, 1) := by decide +kernel
theorem dX12_readsWord_79 : decode cX12_readsWord 79 = .ok (.invokevirtual 288, 3) := by decide +kernel
theorem dX12_readsWord_82 : decode cX12_readsWord 82 = .ok (.ireturn, 1) := by decide +kernel
theorem dX12_readsWord_83 : decode cX12_readsWord 83 = .ok (.aload_n 0, 1) := by decide +kernel
theorem dX12_readsWord_84 : decode cX12_readsWord 84 = .ok (.invokevirtual 291, 3) := by decide +kernel
theorem dX12_readsWord_87 : decode cX12_readsWord 87 = .ok (.ireturn, 1) := by decide +kernel
theorem dX12_readsWord_88 : decode cX12_readsWord 88 = .ok (.aload_n 0, 1) := by decide +kernel
theorem dX12_readsWord_89 : decode cX12_readsWord 89 = .ok (.iconst 1, 1) := by decide +kernel
theorem dX12_readsWord_90 : decode cX12_readsWord 90 = .ok (.iconst 0, 1) := by decide +kernel
theorem dX12_readsWord_91 : decode cX12_readsWord 91 = .ok (.iconst 5, 1) := by decide +kernel
theorem dX12_readsWord_92 : decode cX12_readsWord 92 = .ok (.invokevirtual 294, 3) := by decide +kernel
theorem dX12_readsWord_95 : decode cX12_readsWord 95 = .ok (.ireturn, 1) := by decide +kernel
theorem dX12_readsWord_96 : decode cX12_readsWord 96 = .ok (.aload_n 0, 1) := by decide +kernel
theorem dX12_readsWord_97 : decode cX12_readsWord 97 = .ok (.iconst 2, 1) := by decide +kernel
theorem dX12_readsWord_98 : decode cX12_readsWord 98 = .ok (.bipush 20, 2) := by decide +kernel
theorem dX12_readsWord_100 : decode cX12_readsWord 100 = .ok (.bipush 95, 2) := by decide +kernel
theorem dX12_readsWord_102 : decode cX12_readsWord 102 = .ok (.invokevirtual 294, 3) := by decide +kernel
theorem dX12_readsWord_105 : decode cX12_readsWord 105 = .ok (.ireturn, 1) := by decide +kernel
theorem dX12_readsWord_106 : decode cX12_readsWord 106 = .ok (.aload_n 0, 1) := by decide +kernel
theorem dX12_readsWord_107 : decode cX12_readsWord 107 = .ok (.invokevirtual 297, 3) := by decide +kernel
theorem dX12_readsWord_110 : decode cX12_readsWord 110 = .ok (.ireturn, 1) := by decide +kernel
theorem dX12_readsWord_111 : decode cX12_readsWord 111 = .ok (.aload_n 0, 1) := by decide +kernel
theorem dX12_readsWord_112 : decode cX12_readsWord 112 = .ok (.invokevirtual 300, 3) := by decide +kernel
theorem dX12_readsWord_115 : decode cX12_readsWord 115 = .ok (.ireturn, 1) := by decide +kernel
theorem dX12_readsWord_116 : decode cX12_readsWord 116 = .ok (.aload_n 0, 1) := by decide +kernel
theorem dX12_readsWord_117 : decode cX12_readsWord 117 = .ok (.invokevirtual 303, 3) := by decide +kernel
theorem dX12_readsWord_120 : decode cX12_readsWord 120 = .ok (.ireturn, 1) := by decide +kernel
theorem dX12_readsWord_121 : decode cX12_readsWord 121 = .ok (.aload_n 0, 1) := by decide +kernel
theorem dX12_readsWord_122 : decode cX12_readsWord 122 = .ok (.invokevirtual 306, 3) := by decide +kernel
theorem dX12_readsWord_125 : decode cX12_readsWord 125 = .ok (.ireturn, 1) := by decide +kernel
theorem dX12_readsWord_126 : decode cX12_readsWord 126 = .ok (.aload_n 0, 1) := by decide +kernel
theorem dX12_readsWord_127 : decode cX12_readsWord 127 = .ok (.invokevirtual 309, 3) := by decide +kernel
theorem dX12_readsWord_130 : decode cX12_readsWord 130 = .ok (.ireturn, 1) := by decide +kernel
theorem dX12_readsWord_131 : decode cX12_readsWord 131 = .ok (.aload_n 0, 1) := by decide +kernel
theorem dX12_readsWord_132 : decode cX12_readsWord 132 = .ok (.invokevirtual 312, 3) := by decide +kernel
theorem dX12_readsWord_135 : decode cX12_readsWord 135 = .ok (.ireturn, 1) := by decide +kernel
theorem dX12_readsWord_136 : decode cX12_readsWord 136 = .ok (.aload_n 0, 1) := by decide +kernel
theorem dX12_readsWord_137 : decode cX12_readsWord 137 = .ok (.invokevirtual 315, 3) := by decide +kernel
theorem dX12_readsWord_140 : decode cX12_readsWord 140 = .ok (.ireturn, 1) := by decide +kernel
theorem dX12_readsWord_141 : decode cX12_readsWord 141 = .ok (.aload_n 0, 1) := by decide +kernel
theorem dX12_readsWord_142 : decode cX12_readsWord 142 = .ok (.invokevirtual 318, 3) := by decide +kernel
theorem dX12_readsWord_145 : decode cX12_readsWord 145 = .ok (.ireturn, 1) := by decide +kernel
theorem dX12_readsAll_0 : decode cX12_readsAll 0 = .ok (.aload_n 0, 1) := by decide +kernel
theorem dX12_readsAll_1 : decode cX12_readsAll 1 = .ok (.ldc_w 321, 3) := by decide +kernel
theorem dX12_readsAll_4 : decode cX12_readsAll 4 = .ok (.invokevirtual 180, 3) := by decide +kernel
theorem dX12_readsAll_7 : decode cX12_readsAll 7 = .ok (.ifCond .ne 9, 3) := by decide +kernel
theorem dX12_readsAll_10 : decode cX12_readsAll 10 = .ok (.aload_n 0, 1) := by decide +kernel
theorem dX12_readsAll_11 : decode cX12_readsAll 11 = .ok (.iconst 1, 1) := by decide +kernel
theorem dX12_readsAll_12 : decode cX12_readsAll 12 = .ok (.invokevirtual 168, 3) := by decide +kernel
theorem dX12_readsAll_15 : decode cX12_readsAll 15 = .ok (.ireturn, 1) := by decide +kernel
theorem dX12_readsAll_16 : decode cX12_readsAll 16 = .ok (.aload_n 0, 1) := by decide +kernel
theorem dX12_readsAll_17 : decode cX12_readsAll 17 = .ok (.invokevirtual 174, 3) := by decide +kernel
theorem dX12_readsAll_20 : decode cX12_readsAll 20 = .ok (.aload_n 0, 1) := by decide +kernel
theorem dX12_readsAll_21 : decode cX12_readsAll 21 = .ok (.iconst 1, 1) := by decide +kernel
theorem dX12_readsAll_22 : decode cX12_readsAll 22 = .ok (.invokevirtual 171, 3) := by decide +kernel
theorem dX12_readsAll_25 : decode cX12_readsAll 25 = .ok (.ifCond .ne 5, 3) := by decide +kernel
theorem dX12_readsAll_28 : decode cX12_readsAll 28 = .ok (.iconst 0, 1) := by decide +kernel
theorem dX12_readsAll_29 : decode cX12_readsAll 29 = .ok (.ireturn, 1) := by decide +kernel
theorem dX12_readsAll_30 : decode cX12_readsAll 30 = .ok (.aload_n 0, 1) := by decide +kernel
theorem dX12_readsAll_31 : decode cX12_readsAll 31 = .ok (.invokevirtual 174, 3) := by decide +kernel
theorem dX12_readsAll_34 : decode cX12_readsAll 34 = .ok (.aload_n 0, 1) := by decide +kernel
theorem dX12_readsAll_35 : decode cX12_readsAll 35 = .ok (.getfield 156, 3) := by decide +kernel
theorem dX12_readsAll_38 : decode cX12_readsAll 38 = .ok (.ifCond .eq 20, 3) := by decide +kernel
theorem dX12_readsAll_41 : decode cX12_readsAll 41 = .ok (.aload_n 0, 1) := by decide +kernel
theorem dX12_readsAll_42 : decode cX12_readsAll 42 = .ok (.iconst 0, 1) := by decide +kernel
theorem dX12_readsAll_43 : decode cX12_readsAll 43 = .ok (.invokevirtual 234, 3) := by decide +kernel
theorem dX12_readsAll_46 : decode cX12_readsAll 46 = .ok (.ifCond .ne 5, 3) := by decide +kernel
theorem dX12_readsAll_49 : decode cX12_readsAll 49 = .ok (.iconst 0, 1) := by decide +kernel
theorem dX12_readsAll_50 : decode cX12_readsAll 50 = .ok (.ireturn, 1) := by decide +kernel
theorem dX12_readsAll_51 : decode cX12_readsAll 51 = .ok (.aload_n 0, 1) := by decide +kernel
theorem dX12_readsAll_52 : decode cX12_readsAll 52 = .ok (.invokevirtual 174, 3) := by decide +kernel
theorem dX12_readsAll_55 : decode cX12_readsAll 55 = .ok (.goto (-21), 3) := by decide +kernel
theorem dX12_readsAll_58 : decode cX12_readsAll 58 = .ok (.iconst 1, 1) := by decide +kernel
theorem dX12_readsAll_59 : decode cX12_readsAll 59 = .ok (.ireturn, 1) := by decide +kernel
theorem dX12_parses_0 : decode cX12_parses 0 = .ok (.iconst 0, 1) := by decide +kernel
theorem dX12_parses_1 : decode cX12_parses 1 = .ok (.istore_n 1, 1) := by decide +kernel
theorem dX12_parses_2 : decode cX12_parses 2 = .ok (.iload_n 1, 1) := by decide +kernel
theorem dX12_parses_3 : decode cX12_parses 3 = .ok (.bipush 107, 2) := by decide +kernel
theorem dX12_parses_5 : decode cX12_parses 5 = .ok (.if_icmp .ge 16, 3) := by decide +kernel
theorem dX12_parses_8 : decode cX12_parses 8 = .ok (.aload_n 0, 1) := by decide +kernel
theorem dX12_parses_9 : decode cX12_parses 9 = .ok (.getfield 7, 3) := by decide +kernel
theorem dX12_parses_12 : decode cX12_parses 12 = .ok (.iload_n 1, 1) := by decide +kernel
theorem dX12_parses_13 : decode cX12_parses 13 = .ok (.iconst 0, 1) := by decide +kernel
theorem dX12_parses_14 : decode cX12_parses 14 = .ok (.iastore, 1) := by decide +kernel
theorem dX12_parses_15 : decode cX12_parses 15 = .ok (.iinc 1 1, 3) := by decide +kernel
theorem dX12_parses_18 : decode cX12_parses 18 = .ok (.goto (-16), 3) := by decide +kernel
theorem dX12_parses_21 : decode cX12_parses 21 = .ok (.aload_n 0, 1) := by decide +kernel
theorem dX12_parses_22 : decode cX12_parses 22 = .ok (.getfield 7, 3) := by decide +kernel
theorem dX12_parses_25 : decode cX12_parses 25 = .ok (.iconst 2, 1) := by decide +kernel
theorem dX12_parses_26 : decode cX12_parses 26 = .ok (.bipush 60, 2) := by decide +kernel
theorem dX12_parses_28 : decode cX12_parses 28 = .ok (.iastore, 1) := by decide +kernel
theorem dX12_parses_29 : decode cX12_parses 29 = .ok (.aload_n 0, 1) := by decide +kernel
theorem dX12_parses_30 : decode cX12_parses 30 = .ok (.getfield 7, 3) := by decide +kernel
theorem dX12_parses_33 : decode cX12_parses 33 = .ok (.iconst 3, 1) := by decide +kernel
theorem dX12_parses_34 : decode cX12_parses 34 = .ok (.sipush 580, 3) := by decide +kernel
theorem dX12_parses_37 : decode cX12_parses 37 = .ok (.iastore, 1) := by decide +kernel
theorem dX12_parses_38 : decode cX12_parses 38 = .ok (.aload_n 0, 1) := by decide +kernel
theorem dX12_parses_39 : decode cX12_parses 39 = .ok (.getfield 7, 3) := by decide +kernel
theorem dX12_parses_42 : decode cX12_parses 42 = .ok (.iconst 4, 1) := by decide +kernel
theorem dX12_parses_43 : decode cX12_parses 43 = .ok (.bipush 20, 2) := by decide +kernel
theorem dX12_parses_45 : decode cX12_parses 45 = .ok (.iastore, 1) := by decide +kernel
theorem dX12_parses_46 : decode cX12_parses 46 = .ok (.aload_n 0, 1) := by decide +kernel
theorem dX12_parses_47 : decode cX12_parses 47 = .ok (.iconst 0, 1) := by decide +kernel
theorem dX12_parses_48 : decode cX12_parses 48 = .ok (.putfield 165, 3) := by decide +kernel
theorem dX12_parses_51 : decode cX12_parses 51 = .ok (.aload_n 0, 1) := by decide +kernel
theorem dX12_parses_52 : decode cX12_parses 52 = .ok (.iconst (-1), 1) := by decide +kernel
theorem dX12_parses_53 : decode cX12_parses 53 = .ok (.putfield 31, 3) := by decide +kernel
theorem dX12_parses_56 : decode cX12_parses 56 = .ok (.aload_n 0, 1) := by decide +kernel
theorem dX12_parses_57 : decode cX12_parses 57 = .ok (.iconst 0, 1) := by decide +kernel
theorem dX12_parses_58 : decode cX12_parses 58 = .ok (.putfield 276, 3) := by decide +kernel
theorem dX12_parses_61 : decode cX12_parses 61 = .ok (.aload_n 0, 1) := by decide +kernel
theorem dX12_parses_62 : decode cX12_parses 62 = .ok (.iconst 0, 1) := by decide +kernel
theorem dX12_parses_63 : decode cX12_parses 63 = .ok (.putfield 150, 3) := by decide +kernel
theorem dX12_parses_66 : decode cX12_parses 66 = .ok (.aload_n 0, 1) := by decide +kernel
theorem dX12_parses_67 : decode cX12_parses 67 = .ok (.invokevirtual 174, 3) := by decide +kernel
theorem dX12_parses_70 : decode cX12_parses 70 = .ok (.aload_n 0, 1) := by decide +kernel
theorem dX12_parses_71 : decode cX12_parses 71 = .ok (.invokevirtual 323, 3) := by decide +kernel
theorem dX12_parses_74 : decode cX12_parses 74 = .ok (.ireturn, 1) := by decide +kernel
theorem dX12_append_0 : decode cX12_append 0 = .ok (.aload_n 0, 1) := by decide +kernel
theorem dX12_append_1 : decode cX12_append 1 = .ok (.iconst 0, 1) := by decide +kernel
theorem dX12_append_2 : decode cX12_append 2 = .ok (.putfield 54, 3) := by decide +kernel
theorem dX12_append_5 : decode cX12_append 5 = .ok (.aload_n 0, 1) := by decide +kernel
theorem dX12_append_6 : decode cX12_append 6 = .ok (.getfield 326, 3) := by decide +kernel
theorem dX12_append_9 : decode cX12_append 9 = .ok (.bipush 20, 2) := by decide +kernel
theorem dX12_append_11 : decode cX12_append 11 = .ok (.iadd, 1) := by decide +kernel
theorem dX12_append_12 : decode cX12_append 12 = .ok (.sipush 600, 3) := by decide +kernel
theorem dX12_append_15 : decode cX12_append 15 = .ok (.if_icmp .le 5, 3) := by decide +kernel
theorem dX12_append_18 : decode cX12_append 18 = .ok (.iconst (-1), 1) := by decide +kernel
theorem dX12_append_19 : decode cX12_append 19 = .ok (.ireturn, 1) := by decide +kernel
theorem dX12_append_20 : decode cX12_append 20 = .ok (.aload_n 0, 1) := by decide +kernel
theorem dX12_append_21 : decode cX12_append 21 = .ok (.iload_n 1, 1) := by decide +kernel
theorem dX12_append_22 : decode cX12_append 22 = .ok (.invokevirtual 329, 3) := by decide +kernel
theorem dX12_append_25 : decode cX12_append 25 = .ok (.aload_n 0, 1) := by decide +kernel
theorem dX12_append_26 : decode cX12_append 26 = .ok (.iload_n 2, 1) := by decide +kernel
theorem dX12_append_27 : decode cX12_append 27 = .ok (.invokevirtual 329, 3) := by decide +kernel
theorem dX12_append_30 : decode cX12_append 30 = .ok (.aload_n 0, 1) := by decide +kernel
theorem dX12_append_31 : decode cX12_append 31 = .ok (.iload_n 3, 1) := by decide +kernel
theorem dX12_append_32 : decode cX12_append 32 = .ok (.invokevirtual 329, 3) := by decide +kernel
theorem dX12_append_35 : decode cX12_append 35 = .ok (.aload_n 0, 1) := by decide +kernel
theorem dX12_append_36 : decode cX12_append 36 = .ok (.iload 4, 2) := by decide +kernel
theorem dX12_append_38 : decode cX12_append 38 = .ok (.invokevirtual 329, 3) := by decide +kernel
theorem dX12_append_41 : decode cX12_append 41 = .ok (.aload_n 0, 1) := by decide +kernel
theorem dX12_append_42 : decode cX12_append 42 = .ok (.iload 5, 2) := by decide +kernel
theorem dX12_append_44 : decode cX12_append 44 = .ok (.invokevirtual 329, 3) := by decide +kernel
theorem dX12_append_47 : decode cX12_append 47 = .ok (.aload_n 0, 1) := by decide +kernel
theorem dX12_append_48 : decode cX12_append 48 = .ok (.getfield 326, 3) := by decide +kernel
theorem dX12_append_51 : decode cX12_append 51 = .ok (.ireturn, 1) := by decide +kernel
theorem dX12_type_0 : decode cX12_type 0 = .ok (.bipush 24, 2) := by decide +kernel
theorem dX12_type_2 : decode cX12_type 2 = .ok (.istore_n 2, 1) := by decide +kernel
theorem dX12_type_3 : decode cX12_type 3 = .ok (.iload_n 2, 1) := by decide +kernel
theorem dX12_type_4 : decode cX12_type 4 = .ok (.ifCond .lt 35, 3) := by decide +kernel
theorem dX12_type_7 : decode cX12_type 7 = .ok (.aload_n 0, 1) := by decide +kernel
theorem dX12_type_8 : decode cX12_type 8 = .ok (.getfield 25, 3) := by decide +kernel
theorem dX12_type_11 : decode cX12_type 11 = .ok (.aload_n 0, 1) := by decide +kernel
theorem dX12_type_12 : decode cX12_type 12 = .ok (.getfield 326, 3) := by decide +kernel
theorem dX12_type_15 : decode cX12_type 15 = .ok (.iload_n 1, 1) := by decide +kernel
theorem dX12_type_16 : decode cX12_type 16 = .ok (.iload_n 2, 1) := by decide +kernel
theorem dX12_type_17 : decode cX12_type 17 = .ok (.ishr, 1) := by decide +kernel
theorem dX12_type_18 : decode cX12_type 18 = .ok (.sipush 255, 3) := by decide +kernel
theorem dX12_type_21 : decode cX12_type 21 = .ok (.iand, 1) := by decide +kernel
theorem dX12_type_22 : decode cX12_type 22 = .ok (.iastore, 1) := by decide +kernel
theorem dX12_type_23 : decode cX12_type 23 = .ok (.aload_n 0, 1) := by decide +kernel
theorem dX12_type_24 : decode cX12_type 24 = .ok (.dup, 1) := by decide +kernel
theorem dX12_type_25 : decode cX12_type 25 = .ok (.getfield 326, 3) := by decide +kernel
theorem dX12_type_28 : decode cX12_type 28 = .ok (.iconst 1, 1) := by decide +kernel
theorem dX12_type_29 : decode cX12_type 29 = .ok (.iadd, 1) := by decide +kernel
theorem dX12_type_30 : decode cX12_type 30 = .ok (.putfield 326, 3) := by decide +kernel
theorem dX12_type_33 : decode cX12_type 33 = .ok (.iinc 2 (-8), 3) := by decide +kernel
theorem dX12_type_36 : decode cX12_type 36 = .ok (.goto (-33), 3) := by decide +kernel
theorem dX12_type_39 : decode cX12_type 39 = .ok (.return_, 1) := by decide +kernel
theorem dX12_truncateInput_0 : decode cX12_truncateInput 0 = .ok (.aload_n 0, 1) := by decide +kernel
theorem dX12_truncateInput_1 : decode cX12_truncateInput 1 = .ok (.iload_n 1, 1) := by decide +kernel
theorem dX12_truncateInput_2 : decode cX12_truncateInput 2 = .ok (.iconst 0, 1) := by decide +kernel
theorem dX12_truncateInput_3 : decode cX12_truncateInput 3 = .ok (.aload_n 0, 1) := by decide +kernel
theorem dX12_truncateInput_4 : decode cX12_truncateInput 4 = .ok (.getfield 326, 3) := by decide +kernel
theorem dX12_truncateInput_7 : decode cX12_truncateInput 7 = .ok (.invokestatic 57, 3) := by decide +kernel
theorem dX12_truncateInput_10 : decode cX12_truncateInput 10 = .ok (.ifCond .ne 7, 3) := by decide +kernel
theorem dX12_truncateInput_13 : decode cX12_truncateInput 13 = .ok (.iconst 1, 1) := by decide +kernel
theorem dX12_truncateInput_14 : decode cX12_truncateInput 14 = .ok (.goto 4, 3) := by decide +kernel
theorem dX12_truncateInput_17 : decode cX12_truncateInput 17 = .ok (.iconst 0, 1) := by decide +kernel
theorem dX12_truncateInput_18 : decode cX12_truncateInput 18 = .ok (.invokevirtual 333, 3) := by decide +kernel
theorem dX12_truncateInput_21 : decode cX12_truncateInput 21 = .ok (.ifCond .eq 5, 3) := by decide +kernel
theorem dX12_truncateInput_24 : decode cX12_truncateInput 24 = .ok (.iconst 0, 1) := by decide +kernel
theorem dX12_truncateInput_25 : decode cX12_truncateInput 25 = .ok (.ireturn, 1) := by decide +kernel
theorem dX12_truncateInput_26 : decode cX12_truncateInput 26 = .ok (.aload_n 0, 1) := by decide +kernel
theorem dX12_truncateInput_27 : decode cX12_truncateInput 27 = .ok (.iload_n 1, 1) := by decide +kernel
theorem dX12_truncateInput_28 : decode cX12_truncateInput 28 = .ok (.putfield 326, 3) := by decide +kernel
theorem dX12_truncateInput_31 : decode cX12_truncateInput 31 = .ok (.iload_n 1, 1) := by decide +kernel
theorem dX12_truncateInput_32 : decode cX12_truncateInput 32 = .ok (.ireturn, 1) := by decide +kernel
theorem dX12_begins_0 : decode cX12_begins 0 = .ok (.iconst 0, 1) := by decide +kernel
theorem dX12_begins_1 : decode cX12_begins 1 = .ok (.istore_n 1, 1) := by decide +kernel
theorem dX12_begins_2 : decode cX12_begins 2 = .ok (.iload_n 1, 1) := by decide +kernel
theorem dX12_begins_3 : decode cX12_begins 3 = .ok (.bipush 107, 2) := by decide +kernel
theorem dX12_begins_5 : decode cX12_begins 5 = .ok (.if_icmp .ge 21, 3) := by decide +kernel
theorem dX12_begins_8 : decode cX12_begins 8 = .ok (.aload_n 0, 1) := by decide +kernel
theorem dX12_begins_9 : decode cX12_begins 9 = .ok (.getfield 13, 3) := by decide +kernel
theorem dX12_begins_12 : decode cX12_begins 12 = .ok (.iload_n 1, 1) := by decide +kernel
theorem dX12_begins_13 : decode cX12_begins 13 = .ok (.aload_n 0, 1) := by decide +kernel
theorem dX12_begins_14 : decode cX12_begins 14 = .ok (.getfield 7, 3) := by decide +kernel
theorem dX12_begins_17 : decode cX12_begins 17 = .ok (.iload_n 1, 1) := by decide +kernel
theorem dX12_begins_18 : decode cX12_begins 18 = .ok (.iaload, 1) := by decide +kernel
theorem dX12_begins_19 : decode cX12_begins 19 = .ok (.iastore, 1) := by decide +kernel
theorem dX12_begins_20 : decode cX12_begins 20 = .ok (.iinc 1 1, 3) := by decide +kernel
theorem dX12_begins_23 : decode cX12_begins 23 = .ok (.goto (-21), 3) := by decide +kernel
theorem dX12_begins_26 : decode cX12_begins 26 = .ok (.return_, 1) := by decide +kernel
theorem dX12_remember_0 : decode cX12_remember 0 = .ok (.aload_n 0, 1) := by decide +kernel
theorem dX12_remember_1 : decode cX12_remember 1 = .ok (.getfield 336, 3) := by decide +kernel
theorem dX12_remember_4 : decode cX12_remember 4 = .ok (.bipush 8, 2) := by decide +kernel
theorem dX12_remember_6 : decode cX12_remember 6 = .ok (.if_icmp .ne 44, 3) := by decide +kernel
theorem dX12_remember_9 : decode cX12_remember 9 = .ok (.bipush 107, 2) := by decide +kernel
theorem dX12_remember_11 : decode cX12_remember 11 = .ok (.istore_n 2, 1) := by decide +kernel
theorem dX12_remember_12 : decode cX12_remember 12 = .ok (.iload_n 2, 1) := by decide +kernel
theorem dX12_remember_13 : decode cX12_remember 13 = .ok (.sipush 856, 3) := by decide +kernel
theorem dX12_remember_16 : decode cX12_remember 16 = .ok (.if_icmp .ge 24, 3) := by decide +kernel
theorem dX12_remember_19 : decode cX12_remember 19 = .ok (.aload_n 0, 1) := by decide +kernel
theorem dX12_remember_20 : decode cX12_remember 20 = .ok (.getfield 19, 3) := by decide +kernel
theorem dX12_remember_23 : decode cX12_remember 23 = .ok (.iload_n 2, 1) := by decide +kernel
theorem dX12_remember_24 : decode cX12_remember 24 = .ok (.bipush 107, 2) := by decide +kernel
theorem dX12_remember_26 : decode cX12_remember 26 = .ok (.isub, 1) := by decide +kernel
theorem dX12_remember_27 : decode cX12_remember 27 = .ok (.aload_n 0, 1) := by decide +kernel
theorem dX12_remember_28 : decode cX12_remember 28 = .ok (.getfield 19, 3) := by decide +kernel
theorem dX12_remember_31 : decode cX12_remember 31 = .ok (.iload_n 2, 1) := by decide +kernel
theorem dX12_remember_32 : decode cX12_remember 32 = .ok (.iaload, 1) := by decide +kernel
theorem dX12_remember_33 : decode cX12_remember 33 = .ok (.iastore, 1) := by decide +kernel
theorem dX12_remember_34 : decode cX12_remember 34 = .ok (.iinc 2 1, 3) := by decide +kernel
theorem dX12_remember_37 : decode cX12_remember 37 = .ok (.goto (-25), 3) := by decide +kernel
theorem dX12_remember_40 : decode cX12_remember 40 = .ok (.aload_n 0, 1) := by decide +kernel
theorem dX12_remember_41 : decode cX12_remember 41 = .ok (.dup, 1) := by decide +kernel
theorem dX12_remember_42 : decode cX12_remember 42 = .ok (.getfield 336, 3) := by decide +kernel
theorem dX12_remember_45 : decode cX12_remember 45 = .ok (.iconst 1, 1) := by decide +kernel
theorem dX12_remember_46 : decode cX12_remember 46 = .ok (.isub, 1) := by decide +kernel
theorem dX12_remember_47 : decode cX12_remember 47 = .ok (.putfield 336, 3) := by decide +kernel
theorem dX12_remember_50 : decode cX12_remember 50 = .ok (.iconst 0, 1) := by decide +kernel
theorem dX12_remember_51 : decode cX12_remember 51 = .ok (.istore_n 2, 1) := by decide +kernel
theorem dX12_remember_52 : decode cX12_remember 52 = .ok (.iload_n 2, 1) := by decide +kernel
theorem dX12_remember_53 : decode cX12_remember 53 = .ok (.bipush 107, 2) := by decide +kernel
theorem dX12_remember_55 : decode cX12_remember 55 = .ok (.if_icmp .ge 29, 3) := by decide +kernel
theorem dX12_remember_58 : decode cX12_remember 58 = .ok (.aload_n 0, 1) := by decide +kernel
theorem dX12_remember_59 : decode cX12_remember 59 = .ok (.getfield 19, 3) := by decide +kernel
theorem dX12_remember_62 : decode cX12_remember 62 = .ok (.bipush 107, 2) := by decide +kernel
theorem dX12_remember_64 : decode cX12_remember 64 = .ok (.aload_n 0, 1) := by decide +kernel
theorem dX12_remember_65 : decode cX12_remember 65 = .ok (.getfield 336, 3) := by decide +kernel
theorem dX12_remember_68 : decode cX12_remember 68 = .ok (.imul, 1) := by decide +kernel
theorem dX12_remember_69 : decode cX12_remember 69 = .ok (.iload_n 2, 1) := by decide +kernel
theorem dX12_remember_70 : decode cX12_remember 70 = .ok (.iadd, 1) := by decide +kernel
theorem dX12_remember_71 : decode cX12_remember 71 = .ok (.aload_n 0, 1) := by decide +kernel
theorem dX12_remember_72 : decode cX12_remember 72 = .ok (.getfield 13, 3) := by decide +kernel
theorem dX12_remember_75 : decode cX12_remember 75 = .ok (.iload_n 2, 1) := by decide +kernel
theorem dX12_remember_76 : decode cX12_remember 76 = .ok (.iaload, 1) := by decide +kernel
theorem dX12_remember_77 : decode cX12_remember 77 = .ok (.iastore, 1) := by decide +kernel
theorem dX12_remember_78 : decode cX12_remember 78 = .ok (.iinc 2 1, 3) := by decide +kernel
theorem dX12_remember_81 : decode cX12_remember 81 = .ok (.goto (-29), 3) := by decide +kernel
theorem dX12_remember_84 : decode cX12_remember 84 = .ok (.aload_n 0, 1) := by decide +kernel
theorem dX12_remember_85 : decode cX12_remember 85 = .ok (.dup, 1) := by decide +kernel
theorem dX12_remember_86 : decode cX12_remember 86 = .ok (.getfield 336, 3) := by decide +kernel
theorem dX12_remember_89 : decode cX12_remember 89 = .ok (.iconst 1, 1) := by decide +kernel
theorem dX12_remember_90 : decode cX12_remember 90 = .ok (.iadd, 1) := by decide +kernel
theorem dX12_remember_91 : decode cX12_remember 91 = .ok (.putfield 336, 3) := by decide +kernel
theorem dX12_remember_94 : decode cX12_remember 94 = .ok (.iload_n 1, 1) := by decide +kernel
theorem dX12_remember_95 : decode cX12_remember 95 = .ok (.ireturn, 1) := by decide +kernel
theorem dX12_runScript_0 : decode cX12_runScript 0 = .ok (.aload_n 0, 1) := by decide +kernel
theorem dX12_runScript_1 : decode cX12_runScript 1 = .ok (.iconst 0, 1) := by decide +kernel
theorem dX12_runScript_2 : decode cX12_runScript 2 = .ok (.putfield 54, 3) := by decide +kernel
theorem dX12_runScript_5 : decode cX12_runScript 5 = .ok (.iconst 0, 1) := by decide +kernel
theorem dX12_runScript_6 : decode cX12_runScript 6 = .ok (.istore_n 1, 1) := by decide +kernel
theorem dX12_runScript_7 : decode cX12_runScript 7 = .ok (.iload_n 1, 1) := by decide +kernel
theorem dX12_runScript_8 : decode cX12_runScript 8 = .ok (.aload_n 0, 1) := by decide +kernel
theorem dX12_runScript_9 : decode cX12_runScript 9 = .ok (.getfield 326, 3) := by decide +kernel
theorem dX12_runScript_12 : decode cX12_runScript 12 = .ok (.if_icmp .ge 21, 3) := by decide +kernel
theorem dX12_runScript_15 : decode cX12_runScript 15 = .ok (.aload_n 0, 1) := by decide +kernel
theorem dX12_runScript_16 : decode cX12_runScript 16 = .ok (.getfield 28, 3) := by decide +kernel
theorem dX12_runScript_19 : decode cX12_runScript 19 = .ok (.iload_n 1, 1) := by decide +kernel
theorem dX12_runScript_20 : decode cX12_runScript 20 = .ok (.aload_n 0, 1) := by decide +kernel
theorem dX12_runScript_21 : decode cX12_runScript 21 = .ok (.getfield 25, 3) := by decide +kernel
theorem dX12_runScript_24 : decode cX12_runScript 24 = .ok (.iload_n 1, 1) := by decide +kernel
theorem dX12_runScript_25 : decode cX12_runScript 25 = .ok (.iaload, 1) := by decide +kernel
theorem dX12_runScript_26 : decode cX12_runScript 26 = .ok (.iastore, 1) := by decide +kernel
theorem dX12_runScript_27 : decode cX12_runScript 27 = .ok (.iinc 1 1, 3) := by decide +kernel
theorem dX12_runScript_30 : decode cX12_runScript 30 = .ok (.goto (-23), 3) := by decide +kernel
theorem dX12_runScript_33 : decode cX12_runScript 33 = .ok (.aload_n 0, 1) := by decide +kernel
theorem dX12_runScript_34 : decode cX12_runScript 34 = .ok (.aload_n 0, 1) := by decide +kernel
theorem dX12_runScript_35 : decode cX12_runScript 35 = .ok (.getfield 326, 3) := by decide +kernel
theorem dX12_runScript_38 : decode cX12_runScript 38 = .ok (.putfield 143, 3) := by decide +kernel
theorem dX12_runScript_41 : decode cX12_runScript 41 = .ok (.aload_n 0, 1) := by decide +kernel
theorem dX12_runScript_42 : decode cX12_runScript 42 = .ok (.iconst 0, 1) := by decide +kernel
theorem dX12_runScript_43 : decode cX12_runScript 43 = .ok (.putfield 326, 3) := by decide +kernel
theorem dX12_runScript_46 : decode cX12_runScript 46 = .ok (.aload_n 0, 1) := by decide +kernel
theorem dX12_runScript_47 : decode cX12_runScript 47 = .ok (.invokevirtual 339, 3) := by decide +kernel
theorem dX12_runScript_50 : decode cX12_runScript 50 = .ok (.aload_n 0, 1) := by decide +kernel
theorem dX12_runScript_51 : decode cX12_runScript 51 = .ok (.invokevirtual 50, 3) := by decide +kernel
theorem dX12_runScript_54 : decode cX12_runScript 54 = .ok (.ifCond .ne 31, 3) := by decide +kernel
theorem dX12_runScript_57 : decode cX12_runScript 57 = .ok (.iconst 0, 1) := by decide +kernel
theorem dX12_runScript_58 : decode cX12_runScript 58 = .ok (.istore_n 1, 1) := by decide +kernel
theorem dX12_runScript_59 : decode cX12_runScript 59 = .ok (.iload_n 1, 1) := by decide +kernel
theorem dX12_runScript_60 : decode cX12_runScript 60 = .ok (.bipush 107, 2) := by decide +kernel
theorem dX12_runScript_62 : decode cX12_runScript 62 = .ok (.if_icmp .ge 21, 3) := by decide +kernel
theorem dX12_runScript_65 : decode cX12_runScript 65 = .ok (.aload_n 0, 1) := by decide +kernel
theorem dX12_runScript_66 : decode cX12_runScript 66 = .ok (.getfield 7, 3) := by decide +kernel
theorem dX12_runScript_69 : decode cX12_runScript 69 = .ok (.iload_n 1, 1) := by decide +kernel
theorem dX12_runScript_70 : decode cX12_runScript 70 = .ok (.aload_n 0, 1) := by decide +kernel
theorem dX12_runScript_71 : decode cX12_runScript 71 = .ok (.getfield 13, 3) := by decide +kernel
theorem dX12_runScript_74 : decode cX12_runScript 74 = .ok (.iload_n 1, 1) := by decide +kernel
theorem dX12_runScript_75 : decode cX12_runScript 75 = .ok (.iaload, 1) := by decide +kernel
theorem dX12_runScript_76 : decode cX12_runScript 76 = .ok (.iastore, 1) := by decide +kernel
theorem dX12_runScript_77 : decode cX12_runScript 77 = .ok (.iinc 1 1, 3) := by decide +kernel
theorem dX12_runScript_80 : decode cX12_runScript 80 = .ok (.goto (-21), 3) := by decide +kernel
theorem dX12_runScript_83 : decode cX12_runScript 83 = .ok (.iconst (-1), 1) := by decide +kernel
theorem dX12_runScript_84 : decode cX12_runScript 84 = .ok (.ireturn, 1) := by decide +kernel
theorem dX12_runScript_85 : decode cX12_runScript 85 = .ok (.aload_n 0, 1) := by decide +kernel
theorem dX12_runScript_86 : decode cX12_runScript 86 = .ok (.aload_n 0, 1) := by decide +kernel
theorem dX12_runScript_87 : decode cX12_runScript 87 = .ok (.getfield 7, 3) := by decide +kernel
theorem dX12_runScript_90 : decode cX12_runScript 90 = .ok (.bipush 9, 2) := by decide +kernel
theorem dX12_runScript_92 : decode cX12_runScript 92 = .ok (.iaload, 1) := by decide +kernel
theorem dX12_runScript_93 : decode cX12_runScript 93 = .ok (.invokevirtual 342, 3) := by decide +kernel
theorem dX12_runScript_96 : decode cX12_runScript 96 = .ok (.ireturn, 1) := by decide +kernel
theorem dX12_addTrough_0 : decode cX12_addTrough 0 = .ok (.aload_n 0, 1) := by decide +kernel
theorem dX12_addTrough_1 : decode cX12_addTrough 1 = .ok (.iload_n 1, 1) := by decide +kernel
theorem dX12_addTrough_2 : decode cX12_addTrough 2 = .ok (.bipush 10, 2) := by decide +kernel
theorem dX12_addTrough_4 : decode cX12_addTrough 4 = .ok (.sipush 500, 3) := by decide +kernel
theorem dX12_addTrough_7 : decode cX12_addTrough 7 = .ok (.invokestatic 57, 3) := by decide +kernel
theorem dX12_addTrough_10 : decode cX12_addTrough 10 = .ok (.ifCond .ne 7, 3) := by decide +kernel
theorem dX12_addTrough_13 : decode cX12_addTrough 13 = .ok (.iconst 1, 1) := by decide +kernel
theorem dX12_addTrough_14 : decode cX12_addTrough 14 = .ok (.goto 4, 3) := by decide +kernel
theorem dX12_addTrough_17 : decode cX12_addTrough 17 = .ok (.iconst 0, 1) := by decide +kernel
theorem dX12_addTrough_18 : decode cX12_addTrough 18 = .ok (.aload_n 0, 1) := by decide +kernel
theorem dX12_addTrough_19 : decode cX12_addTrough 19 = .ok (.getfield 7, 3) := by decide +kernel
theorem dX12_addTrough_22 : decode cX12_addTrough 22 = .ok (.bipush 9, 2) := by decide +kernel
theorem dX12_addTrough_24 : decode cX12_addTrough 24 = .ok (.iaload, 1) := by decide +kernel
theorem dX12_addTrough_25 : decode cX12_addTrough 25 = .ok (.bipush 8, 2) := by decide +kernel
theorem dX12_addTrough_27 : decode cX12_addTrough 27 = .ok (.if_icmp .ne 7, 3) := by decide +kernel
theorem dX12_addTrough_30 : decode cX12_addTrough 30 = .ok (.iconst 1, 1) := by decide +kernel
theorem dX12_addTrough_31 : decode cX12_addTrough 31 = .ok (.goto 4, 3) := by decide +kernel
theorem dX12_addTrough_34 : decode cX12_addTrough 34 = .ok (.iconst 0, 1) := by decide +kernel
theorem dX12_addTrough_35 : decode cX12_addTrough 35 = .ok (.invokevirtual 345, 3) := by decide +kernel
theorem dX12_addTrough_38 : decode cX12_addTrough 38 = .ok (.ifCond .eq 5, 3) := by decide +kernel
theorem dX12_addTrough_41 : decode cX12_addTrough 41 = .ok (.iconst 0, 1) := by decide +kernel
theorem dX12_addTrough_42 : decode cX12_addTrough 42 = .ok (.ireturn, 1) := by decide +kernel
theorem dX12_addTrough_43 : decode cX12_addTrough 43 = .ok (.aload_n 0, 1) := by decide +kernel
theorem dX12_addTrough_44 : decode cX12_addTrough 44 = .ok (.invokevirtual 339, 3) := by decide +kernel
theorem dX12_addTrough_47 : decode cX12_addTrough 47 = .ok (.aload_n 0, 1) := by decide +kernel
theorem dX12_addTrough_48 : decode cX12_addTrough 48 = .ok (.aload_n 0, 1) := by decide +kernel
theorem dX12_addTrough_49 : decode cX12_addTrough 49 = .ok (.iload_n 1, 1) := by decide +kernel
theorem dX12_addTrough_50 : decode cX12_addTrough 50 = .ok (.invokevirtual 188, 3) := by decide +kernel
theorem dX12_addTrough_53 : decode cX12_addTrough 53 = .ok (.invokevirtual 342, 3) := by decide +kernel
theorem dX12_addTrough_56 : decode cX12_addTrough 56 = .ok (.ireturn, 1) := by decide +kernel
theorem dX12_load_0 : decode cX12_load 0 = .ok (.aload_n 0, 1) := by decide +kernel
theorem dX12_load_1 : decode cX12_load 1 = .ok (.iload_n 1, 1) := by decide +kernel
theorem dX12_load_2 : decode cX12_load 2 = .ok (.invokevirtual 348, 3) := by decide +kernel
theorem dX12_load_5 : decode cX12_load 5 = .ok (.istore 4, 2) := by decide +kernel
theorem dX12_load_7 : decode cX12_load 7 = .ok (.iload 4, 2) := by decide +kernel
theorem dX12_load_9 : decode cX12_load 9 = .ok (.ifCond .eq 17, 3) := by decide +kernel
theorem dX12_load_12 : decode cX12_load 12 = .ok (.iload_n 2, 1) := by decide +kernel
theorem dX12_load_13 : decode cX12_load 13 = .ok (.iconst 1, 1) := by decide +kernel
theorem dX12_load_14 : decode cX12_load 14 = .ok (.aload_n 0, 1) := by decide +kernel
theorem dX12_load_15 : decode cX12_load 15 = .ok (.iload_n 1, 1) := by decide +kernel
theorem dX12_load_16 : decode cX12_load 16 = .ok (.iconst 0, 1) := by decide +kernel
theorem dX12_load_17 : decode cX12_load 17 = .ok (.invokevirtual 61, 3) := by decide +kernel
theorem dX12_load_20 : decode cX12_load 20 = .ok (.invokestatic 57, 3) := by decide +kernel
theorem dX12_load_23 : decode cX12_load 23 = .ok (.ifCond .eq 16, 3) := by decide +kernel
theorem dX12_load_26 : decode cX12_load 26 = .ok (.iload_n 3, 1) := by decide +kernel
theorem dX12_load_27 : decode cX12_load 27 = .ok (.sipush 600, 3) := by decide +kernel
theorem dX12_load_30 : decode cX12_load 30 = .ok (.sipush 900, 3) := by decide +kernel
theorem dX12_load_33 : decode cX12_load 33 = .ok (.invokestatic 57, 3) := by decide +kernel
theorem dX12_load_36 : decode cX12_load 36 = .ok (.ifCond .ne 7, 3) := by decide +kernel
theorem dX12_load_39 : decode cX12_load 39 = .ok (.iconst 1, 1) := by decide +kernel
theorem dX12_load_40 : decode cX12_load 40 = .ok (.goto 4, 3) := by decide +kernel
theorem dX12_load_43 : decode cX12_load 43 = .ok (.iconst 0, 1) := by decide +kernel
theorem dX12_load_44 : decode cX12_load 44 = .ok (.istore 5, 2) := by decide +kernel
theorem dX12_load_46 : decode cX12_load 46 = .ok (.aload_n 0, 1) := by decide +kernel
theorem dX12_load_47 : decode cX12_load 47 = .ok (.iload 4, 2) := by decide +kernel
theorem dX12_load_49 : decode cX12_load 49 = .ok (.ifCond .ne 7, 3) := by decide +kernel
theorem dX12_load_52 : decode cX12_load 52 = .ok (.iconst 1, 1) := by decide +kernel
theorem dX12_load_53 : decode cX12_load 53 = .ok (.goto 4, 3) := by decide +kernel
theorem dX12_load_56 : decode cX12_load 56 = .ok (.iconst 0, 1) := by decide +kernel
theorem dX12_load_57 : decode cX12_load 57 = .ok (.iload 5, 2) := by decide +kernel
theorem dX12_load_59 : decode cX12_load 59 = .ok (.iload 4, 2) := by decide +kernel
theorem dX12_load_61 : decode cX12_load 61 = .ok (.ifCond .eq 15, 3) := by decide +kernel
theorem dX12_load_64 : decode cX12_load 64 = .ok (.aload_n 0, 1) := by decide +kernel
theorem dX12_load_65 : decode cX12_load 65 = .ok (.iload_n 1, 1) := by decide +kernel
theorem dX12_load_66 : decode cX12_load 66 = .ok (.invokevirtual 73, 3) := by decide +kernel
theorem dX12_load_69 : decode cX12_load 69 = .ok (.ifCond .ne 7, 3) := by decide +kernel
theorem dX12_load_72 : decode cX12_load 72 = .ok (.iconst 1, 1) := by decide +kernel
theorem dX12_load_73 : decode cX12_load 73 = .ok (.goto 4, 3) := by decide +kernel
theorem dX12_load_76 : decode cX12_load 76 = .ok (.iconst 0, 1) := by decide +kernel
theorem dX12_load_77 : decode cX12_load 77 = .ok (.invokevirtual 351, 3) := by decide +kernel
theorem dX12_load_80 : decode cX12_load 80 = .ok (.ifCond .eq 5, 3) := by decide +kernel
theorem dX12_load_83 : decode cX12_load 83 = .ok (.iconst 0, 1) := by decide +kernel
theorem dX12_load_84 : decode cX12_load 84 = .ok (.ireturn, 1) := by decide +kernel
theorem dX12_load_85 : decode cX12_load 85 = .ok (.aload_n 0, 1) := by decide +kernel
theorem dX12_load_86 : decode cX12_load 86 = .ok (.invokevirtual 339, 3) := by decide +kernel
theorem dX12_load_89 : decode cX12_load 89 = .ok (.aload_n 0, 1) := by decide +kernel
theorem dX12_load_90 : decode cX12_load 90 = .ok (.aload_n 0, 1) := by decide +kernel
theorem dX12_load_91 : decode cX12_load 91 = .ok (.iload_n 1, 1) := by decide +kernel
theorem dX12_load_92 : decode cX12_load 92 = .ok (.iload_n 2, 1) := by decide +kernel
theorem dX12_load_93 : decode cX12_load 93 = .ok (.iload_n 3, 1) := by decide +kernel
theorem dX12_load_94 : decode cX12_load 94 = .ok (.invokevirtual 194, 3) := by decide +kernel
theorem dX12_load_97 : decode cX12_load 97 = .ok (.invokevirtual 342, 3) := by decide +kernel
theorem dX12_load_100 : decode cX12_load 100 = .ok (.ireturn, 1) := by decide +kernel
theorem dX12_setOne_0 : decode cX12_setOne 0 = .ok (.aload_n 0, 1) := by decide +kernel
theorem dX12_setOne_1 : decode cX12_setOne 1 = .ok (.invokevirtual 339, 3) := by decide +kernel
theorem dX12_setOne_4 : decode cX12_setOne 4 = .ok (.aload_n 0, 1) := by decide +kernel
theorem dX12_setOne_5 : decode cX12_setOne 5 = .ok (.aload_n 0, 1) := by decide +kernel
theorem dX12_setOne_6 : decode cX12_setOne 6 = .ok (.iload_n 1, 1) := by decide +kernel
theorem dX12_setOne_7 : decode cX12_setOne 7 = .ok (.iload_n 2, 1) := by decide +kernel
theorem dX12_setOne_8 : decode cX12_setOne 8 = .ok (.invokevirtual 354, 3) := by decide +kernel
theorem dX12_setOne_11 : decode cX12_setOne 11 = .ok (.invokevirtual 342, 3) := by decide +kernel
theorem dX12_setOne_14 : decode cX12_setOne 14 = .ok (.ireturn, 1) := by decide +kernel
theorem dX12_setFan_0 : decode cX12_setFan 0 = .ok (.aload_n 0, 1) := by decide +kernel
theorem dX12_setFan_1 : decode cX12_setFan 1 = .ok (.aload_n 0, 1) := by decide +kernel
theorem dX12_setFan_2 : decode cX12_setFan 2 = .ok (.iload_n 1, 1) := by decide +kernel
theorem dX12_setFan_3 : decode cX12_setFan 3 = .ok (.invokevirtual 348, 3) := by decide +kernel
theorem dX12_setFan_6 : decode cX12_setFan 6 = .ok (.ifCond .ne 7, 3) := by decide +kernel
theorem dX12_setFan_9 : decode cX12_setFan 9 = .ok (.iconst 1, 1) := by decide +kernel
theorem dX12_setFan_10 : decode cX12_setFan 10 = .ok (.goto 4, 3) := by decide +kernel
theorem dX12_setFan_13 : decode cX12_setFan 13 = .ok (.iconst 0, 1) := by decide +kernel
theorem dX12_setFan_14 : decode cX12_setFan 14 = .ok (.iload_n 2, 1) := by decide +kernel
theorem dX12_setFan_15 : decode cX12_setFan 15 = .ok (.iconst 0, 1) := by decide +kernel
theorem dX12_setFan_16 : decode cX12_setFan 16 = .ok (.iconst 5, 1) := by decide +kernel
theorem dX12_setFan_17 : decode cX12_setFan 17 = .ok (.invokestatic 57, 3) := by decide +kernel
theorem dX12_setFan_20 : decode cX12_setFan 20 = .ok (.ifCond .ne 7, 3) := by decide +kernel
theorem dX12_setFan_23 : decode cX12_setFan 23 = .ok (.iconst 1, 1) := by decide +kernel
theorem dX12_setFan_24 : decode cX12_setFan 24 = .ok (.goto 4, 3) := by decide +kernel
theorem dX12_setFan_27 : decode cX12_setFan 27 = .ok (.iconst 0, 1) := by decide +kernel
theorem dX12_setFan_28 : decode cX12_setFan 28 = .ok (.invokevirtual 345, 3) := by decide +kernel
theorem dX12_setFan_31 : decode cX12_setFan 31 = .ok (.ifCond .eq 7, 3) := by decide +kernel
theorem dX12_setFan_34 : decode cX12_setFan 34 = .ok (.iconst 0, 1) := by decide +kernel
theorem dX12_setFan_35 : decode cX12_setFan 35 = .ok (.goto 17, 3) := by decide +kernel
theorem dX12_setFan_38 : decode cX12_setFan 38 = .ok (.aload_n 0, 1) := by decide +kernel
theorem dX12_setFan_39 : decode cX12_setFan 39 = .ok (.bipush 17, 2) := by decide +kernel
theorem dX12_setFan_41 : decode cX12_setFan 41 = .ok (.bipush 9, 2) := by decide +kernel
theorem dX12_setFan_43 : decode cX12_setFan 43 = .ok (.iload_n 1, 1) := by decide +kernel
theorem dX12_setFan_44 : decode cX12_setFan 44 = .ok (.imul, 1) := by decide +kernel
theorem dX12_setFan_45 : decode cX12_setFan 45 = .ok (.iadd, 1) := by decide +kernel
theorem dX12_setFan_46 : decode cX12_setFan 46 = .ok (.iconst 1, 1) := by decide +kernel
theorem dX12_setFan_47 : decode cX12_setFan 47 = .ok (.iadd, 1) := by decide +kernel
theorem dX12_setFan_48 : decode cX12_setFan 48 = .ok (.iload_n 2, 1) := by decide +kernel
theorem dX12_setFan_49 : decode cX12_setFan 49 = .ok (.invokevirtual 357, 3) := by decide +kernel
theorem dX12_setFan_52 : decode cX12_setFan 52 = .ok (.ireturn, 1) := by decide +kernel
theorem dX12_reverse_0 : decode cX12_reverse 0 = .ok (.aload_n 0, 1) := by decide +kernel
theorem dX12_reverse_1 : decode cX12_reverse 1 = .ok (.aload_n 0, 1) := by decide +kernel
theorem dX12_reverse_2 : decode cX12_reverse 2 = .ok (.iload_n 1, 1) := by decide +kernel
theorem dX12_reverse_3 : decode cX12_reverse 3 = .ok (.invokevirtual 348, 3) := by decide +kernel
theorem dX12_reverse_6 : decode cX12_reverse 6 = .ok (.ifCond .ne 7, 3) := by decide +kernel
theorem dX12_reverse_9 : decode cX12_reverse 9 = .ok (.iconst 1, 1) := by decide +kernel
theorem dX12_reverse_10 : decode cX12_reverse 10 = .ok (.goto 4, 3) := by decide +kernel
theorem dX12_reverse_13 : decode cX12_reverse 13 = .ok (.iconst 0, 1) := by decide +kernel
theorem dX12_reverse_14 : decode cX12_reverse 14 = .ok (.invokevirtual 333, 3) := by decide +kernel
theorem dX12_reverse_17 : decode cX12_reverse 17 = .ok (.ifCond .eq 5, 3) := by decide +kernel
theorem dX12_reverse_20 : decode cX12_reverse 20 = .ok (.iconst 0, 1) := by decide +kernel
theorem dX12_reverse_21 : decode cX12_reverse 21 = .ok (.ireturn, 1) := by decide +kernel
theorem dX12_reverse_22 : decode cX12_reverse 22 = .ok (.aload_n 0, 1) := by decide +kernel
theorem dX12_reverse_23 : decode cX12_reverse 23 = .ok (.invokevirtual 339, 3) := by decide +kernel
theorem dX12_reverse_26 : decode cX12_reverse 26 = .ok (.aload_n 0, 1) := by decide +kernel
theorem dX12_reverse_27 : decode cX12_reverse 27 = .ok (.aload_n 0, 1) := by decide +kernel
theorem dX12_reverse_28 : decode cX12_reverse 28 = .ok (.iload_n 1, 1) := by decide +kernel
theorem dX12_reverse_29 : decode cX12_reverse 29 = .ok (.invokevirtual 198, 3) := by decide +kernel
theorem dX12_reverse_32 : decode cX12_reverse 32 = .ok (.ifCond .eq 7, 3) := by decide +kernel
theorem dX12_reverse_35 : decode cX12_reverse 35 = .ok (.iconst 1, 1) := by decide +kernel
theorem dX12_reverse_36 : decode cX12_reverse 36 = .ok (.goto 4, 3) := by decide +kernel
theorem dX12_reverse_39 : decode cX12_reverse 39 = .ok (.iconst 0, 1) := by decide +kernel
theorem dX12_reverse_40 : decode cX12_reverse 40 = .ok (.invokevirtual 342, 3) := by decide +kernel
theorem dX12_reverse_43 : decode cX12_reverse 43 = .ok (.iconst 1, 1) := by decide +kernel
theorem dX12_reverse_44 : decode cX12_reverse 44 = .ok (.if_icmp .ne 7, 3) := by decide +kernel
theorem dX12_reverse_47 : decode cX12_reverse 47 = .ok (.iconst 1, 1) := by decide +kernel
theorem dX12_reverse_48 : decode cX12_reverse 48 = .ok (.goto 4, 3) := by decide +kernel
theorem dX12_reverse_51 : decode cX12_reverse 51 = .ok (.iconst 0, 1) := by decide +kernel
theorem dX12_reverse_52 : decode cX12_reverse 52 = .ok (.ireturn, 1) := by decide +kernel
theorem dX12_setHeat_0 : decode cX12_setHeat 0 = .ok (.aload_n 0, 1) := by decide +kernel
theorem dX12_setHeat_1 : decode cX12_setHeat 1 = .ok (.iload_n 1, 1) := by decide +kernel
theorem dX12_setHeat_2 : decode cX12_setHeat 2 = .ok (.iconst 0, 1) := by decide +kernel
theorem dX12_setHeat_3 : decode cX12_setHeat 3 = .ok (.iconst 5, 1) := by decide +kernel
theorem dX12_setHeat_4 : decode cX12_setHeat 4 = .ok (.invokestatic 57, 3) := by decide +kernel
theorem dX12_setHeat_7 : decode cX12_setHeat 7 = .ok (.ifCond .ne 7, 3) := by decide +kernel
theorem dX12_setHeat_10 : decode cX12_setHeat 10 = .ok (.iconst 1, 1) := by decide +kernel
theorem dX12_setHeat_11 : decode cX12_setHeat 11 = .ok (.goto 4, 3) := by decide +kernel
theorem dX12_setHeat_14 : decode cX12_setHeat 14 = .ok (.iconst 0, 1) := by decide +kernel
theorem dX12_setHeat_15 : decode cX12_setHeat 15 = .ok (.invokevirtual 333, 3) := by decide +kernel
theorem dX12_setHeat_18 : decode cX12_setHeat 18 = .ok (.ifCond .eq 7, 3) := by decide +kernel
theorem dX12_setHeat_21 : decode cX12_setHeat 21 = .ok (.iconst 0, 1) := by decide +kernel
theorem dX12_setHeat_22 : decode cX12_setHeat 22 = .ok (.goto 9, 3) := by decide +kernel
theorem dX12_setHeat_25 : decode cX12_setHeat 25 = .ok (.aload_n 0, 1) := by decide +kernel
theorem dX12_setHeat_26 : decode cX12_setHeat 26 = .ok (.iconst 1, 1) := by decide +kernel
theorem dX12_setHeat_27 : decode cX12_setHeat 27 = .ok (.iload_n 1, 1) := by decide +kernel
theorem dX12_setHeat_28 : decode cX12_setHeat 28 = .ok (.invokevirtual 357, 3) := by decide +kernel
theorem dX12_setHeat_31 : decode cX12_setHeat 31 = .ok (.ireturn, 1) := by decide +kernel
theorem dX12_setHumidity_0 : decode cX12_setHumidity 0 = .ok (.aload_n 0, 1) := by decide +kernel
theorem dX12_setHumidity_1 : decode cX12_setHumidity 1 = .ok (.iload_n 1, 1) := by decide +kernel
theorem dX12_setHumidity_2 : decode cX12_setHumidity 2 = .ok (.bipush 20, 2) := by decide +kernel
theorem dX12_setHumidity_4 : decode cX12_setHumidity 4 = .ok (.bipush 95, 2) := by decide +kernel
theorem dX12_setHumidity_6 : decode cX12_setHumidity 6 = .ok (.invokestatic 57, 3) := by decide +kernel
theorem dX12_setHumidity_9 : decode cX12_setHumidity 9 = .ok (.ifCond .ne 7, 3) := by decide +kernel
theorem dX12_setHumidity_12 : decode cX12_setHumidity 12 = .ok (.iconst 1, 1) := by decide +kernel
theorem dX12_setHumidity_13 : decode cX12_setHumidity 13 = .ok (.goto 4, 3) := by decide +kernel
theorem dX12_setHumidity_16 : decode cX12_setHumidity 16 = .ok (.iconst 0, 1) := by decide +kernel
theorem dX12_setHumidity_17 : decode cX12_setHumidity 17 = .ok (.invokevirtual 333, 3) := by decide +kernel
theorem dX12_setHumidity_20 : decode cX12_setHumidity 20 = .ok (.ifCond .eq 7, 3) := by decide +kernel
theorem dX12_setHumidity_23 : decode cX12_setHumidity 23 = .ok (.iconst 0, 1) := by decide +kernel
theorem dX12_setHumidity_24 : decode cX12_setHumidity 24 = .ok (.goto 9, 3) := by decide +kernel
theorem dX12_setHumidity_27 : decode cX12_setHumidity 27 = .ok (.aload_n 0, 1) := by decide +kernel
theorem dX12_setHumidity_28 : decode cX12_setHumidity 28 = .ok (.iconst 2, 1) := by decide +kernel
theorem dX12_setHumidity_29 : decode cX12_setHumidity 29 = .ok (.iload_n 1, 1) := by decide +kernel
theorem dX12_setHumidity_30 : decode cX12_setHumidity 30 = .ok (.invokevirtual 357, 3) := by decide +kernel
theorem dX12_setHumidity_33 : decode cX12_setHumidity 33 = .ok (.ireturn, 1) := by decide +kernel
theorem dX12_announceMonsoon_0 : decode cX12_announceMonsoon 0 = .ok (.aload_n 0, 1) := by decide +kernel
theorem dX12_announceMonsoon_1 : decode cX12_announceMonsoon 1 = .ok (.iload_n 1, 1) := by decide +kernel
theorem dX12_announceMonsoon_2 : decode cX12_announceMonsoon 2 = .ok (.aload_n 0, 1) := by decide +kernel
theorem dX12_announceMonsoon_3 : decode cX12_announceMonsoon 3 = .ok (.getfield 7, 3) := by decide +kernel
theorem dX12_announceMonsoon_6 : decode cX12_announceMonsoon 6 = .ok (.iconst 0, 1) := by decide +kernel
theorem dX12_announceMonsoon_7 : decode cX12_announceMonsoon 7 = .ok (.iaload, 1) := by decide +kernel
theorem dX12_announceMonsoon_8 : decode cX12_announceMonsoon 8 = .ok (.bipush 24, 2) := by decide +kernel
theorem dX12_announceMonsoon_10 : decode cX12_announceMonsoon 10 = .ok (.idiv, 1) := by decide +kernel
theorem dX12_announceMonsoon_11 : decode cX12_announceMonsoon 11 = .ok (.bipush 83, 2) := by decide +kernel
theorem dX12_announceMonsoon_13 : decode cX12_announceMonsoon 13 = .ok (.invokestatic 57, 3) := by decide +kernel
theorem dX12_announceMonsoon_16 : decode cX12_announceMonsoon 16 = .ok (.ifCond .ne 7, 3) := by decide +kernel
theorem dX12_announceMonsoon_19 : decode cX12_announceMonsoon 19 = .ok (.iconst 1, 1) := by decide +kernel
theorem dX12_announceMonsoon_20 : decode cX12_announceMonsoon 20 = .ok (.goto 4, 3) := by decide +kernel
theorem dX12_announceMonsoon_23 : decode cX12_announceMonsoon 23 = .ok (.iconst 0, 1) := by decide +kernel
theorem dX12_announceMonsoon_24 : decode cX12_announceMonsoon 24 = .ok (.aload_n 0, 1) := by decide +kernel
theorem dX12_announceMonsoon_25 : decode cX12_announceMonsoon 25 = .ok (.getfield 7, 3) := by decide +kernel
theorem dX12_announceMonsoon_28 : decode cX12_announceMonsoon 28 = .ok (.iconst 5, 1) := by decide +kernel
theorem dX12_announceMonsoon_29 : decode cX12_announceMonsoon 29 = .ok (.iaload, 1) := by decide +kernel
theorem dX12_announceMonsoon_30 : decode cX12_announceMonsoon 30 = .ok (.iconst 3, 1) := by decide +kernel
theorem dX12_announceMonsoon_31 : decode cX12_announceMonsoon 31 = .ok (.if_icmp .ne 7, 3) := by decide +kernel
theorem dX12_announceMonsoon_34 : decode cX12_announceMonsoon 34 = .ok (.iconst 1, 1) := by decide +kernel
theorem dX12_announceMonsoon_35 : decode cX12_announceMonsoon 35 = .ok (.goto 4, 3) := by decide +kernel
theorem dX12_announceMonsoon_38 : decode cX12_announceMonsoon 38 = .ok (.iconst 0, 1) := by decide +kernel
theorem dX12_announceMonsoon_39 : decode cX12_announceMonsoon 39 = .ok (.invokevirtual 345, 3) := by decide +kernel
theorem dX12_announceMonsoon_42 : decode cX12_announceMonsoon 42 = .ok (.ifCond .eq 5, 3) := by decide +kernel
theorem dX12_announceMonsoon_45 : decode cX12_announceMonsoon 45 = .ok (.iconst 0, 1) := by decide +kernel
theorem dX12_announceMonsoon_46 : decode cX12_announceMonsoon 46 = .ok (.ireturn, 1) := by decide +kernel
theorem dX12_announceMonsoon_47 : decode cX12_announceMonsoon 47 = .ok (.aload_n 0, 1) := by decide +kernel
theorem dX12_announceMonsoon_48 : decode cX12_announceMonsoon 48 = .ok (.invokevirtual 339, 3) := by decide +kernel
theorem dX12_announceMonsoon_51 : decode cX12_announceMonsoon 51 = .ok (.aload_n 0, 1) := by decide +kernel
theorem dX12_announceMonsoon_52 : decode cX12_announceMonsoon 52 = .ok (.aload_n 0, 1) := by decide +kernel
theorem dX12_announceMonsoon_53 : decode cX12_announceMonsoon 53 = .ok (.iload_n 1, 1) := by decide +kernel
theorem dX12_announceMonsoon_54 : decode cX12_announceMonsoon 54 = .ok (.invokevirtual 201, 3) := by decide +kernel
theorem dX12_announceMonsoon_57 : decode cX12_announceMonsoon 57 = .ok (.invokevirtual 342, 3) := by decide +kernel
theorem dX12_announceMonsoon_60 : decode cX12_announceMonsoon 60 = .ok (.ireturn, 1) := by decide +kernel
theorem dX12_setTarget_0 : decode cX12_setTarget 0 = .ok (.aload_n 0, 1) := by decide +kernel
theorem dX12_setTarget_1 : decode cX12_setTarget 1 = .ok (.iload_n 1, 1) := by decide +kernel
theorem dX12_setTarget_2 : decode cX12_setTarget 2 = .ok (.sipush 500, 3) := by decide +kernel
theorem dX12_setTarget_5 : decode cX12_setTarget 5 = .ok (.sipush 700, 3) := by decide +kernel
theorem dX12_setTarget_8 : decode cX12_setTarget 8 = .ok (.invokestatic 57, 3) := by decide +kernel
theorem dX12_setTarget_11 : decode cX12_setTarget 11 = .ok (.ifCond .eq 13, 3) := by decide +kernel
theorem dX12_setTarget_14 : decode cX12_setTarget 14 = .ok (.iload_n 2, 1) := by decide +kernel
theorem dX12_setTarget_15 : decode cX12_setTarget 15 = .ok (.iconst 5, 1) := by decide +kernel
theorem dX12_setTarget_16 : decode cX12_setTarget 16 = .ok (.bipush 50, 2) := by decide +kernel
theorem dX12_setTarget_18 : decode cX12_setTarget 18 = .ok (.invokestatic 57, 3) := by decide +kernel
theorem dX12_setTarget_21 : decode cX12_setTarget 21 = .ok (.ifCond .ne 7, 3) := by decide +kernel
theorem dX12_setTarget_24 : decode cX12_setTarget 24 = .ok (.iconst 1, 1) := by decide +kernel
theorem dX12_setTarget_25 : decode cX12_setTarget 25 = .ok (.goto 4, 3) := by decide +kernel
theorem dX12_setTarget_28 : decode cX12_setTarget 28 = .ok (.iconst 0, 1) := by decide +kernel
theorem dX12_setTarget_29 : decode cX12_setTarget 29 = .ok (.invokevirtual 333, 3) := by decide +kernel
theorem dX12_setTarget_32 : decode cX12_setTarget 32 = .ok (.ifCond .eq 5, 3) := by decide +kernel
theorem dX12_setTarget_35 : decode cX12_setTarget 35 = .ok (.iconst 0, 1) := by decide +kernel
theorem dX12_setTarget_36 : decode cX12_setTarget 36 = .ok (.ireturn, 1) := by decide +kernel
theorem dX12_setTarget_37 : decode cX12_setTarget 37 = .ok (.aload_n 0, 1) := by decide +kernel
theorem dX12_setTarget_38 : decode cX12_setTarget 38 = .ok (.invokevirtual 339, 3) := by decide +kernel
theorem dX12_setTarget_41 : decode cX12_setTarget 41 = .ok (.aload_n 0, 1) := by decide +kernel
theorem dX12_setTarget_42 : decode cX12_setTarget 42 = .ok (.aload_n 0, 1) := by decide +kernel
theorem dX12_setTarget_43 : decode cX12_setTarget 43 = .ok (.iload_n 1, 1) := by decide +kernel
theorem dX12_setTarget_44 : decode cX12_setTarget 44 = .ok (.iload_n 2, 1) := by decide +kernel
theorem dX12_setTarget_45 : decode cX12_setTarget 45 = .ok (.invokevirtual 204, 3) := by decide +kernel
theorem dX12_setTarget_48 : decode cX12_setTarget 48 = .ok (.invokevirtual 342, 3) := by decide +kernel
theorem dX12_setTarget_51 : decode cX12_setTarget 51 = .ok (.ireturn, 1) := by decide +kernel
theorem dX12_turnLeaf_0 : decode cX12_turnLeaf 0 = .ok (.aload_n 0, 1) := by decide +kernel
theorem dX12_turnLeaf_1 : decode cX12_turnLeaf 1 = .ok (.iload_n 1, 1) := by decide +kernel
theorem dX12_turnLeaf_2 : decode cX12_turnLeaf 2 = .ok (.invokevirtual 348, 3) := by decide +kernel
theorem dX12_turnLeaf_5 : decode cX12_turnLeaf 5 = .ok (.istore_n 2, 1) := by decide +kernel
theorem dX12_turnLeaf_6 : decode cX12_turnLeaf 6 = .ok (.aload_n 0, 1) := by decide +kernel
theorem dX12_turnLeaf_7 : decode cX12_turnLeaf 7 = .ok (.iload_n 2, 1) := by decide +kernel
theorem dX12_turnLeaf_8 : decode cX12_turnLeaf 8 = .ok (.ifCond .ne 7, 3) := by decide +kernel
theorem dX12_turnLeaf_11 : decode cX12_turnLeaf 11 = .ok (.iconst 1, 1) := by decide +kernel
theorem dX12_turnLeaf_12 : decode cX12_turnLeaf 12 = .ok (.goto 4, 3) := by decide +kernel
theorem dX12_turnLeaf_15 : decode cX12_turnLeaf 15 = .ok (.iconst 0, 1) := by decide +kernel
theorem dX12_turnLeaf_16 : decode cX12_turnLeaf 16 = .ok (.iload_n 2, 1) := by decide +kernel
theorem dX12_turnLeaf_17 : decode cX12_turnLeaf 17 = .ok (.ifCond .eq 15, 3) := by decide +kernel
theorem dX12_turnLeaf_20 : decode cX12_turnLeaf 20 = .ok (.aload_n 0, 1) := by decide +kernel
theorem dX12_turnLeaf_21 : decode cX12_turnLeaf 21 = .ok (.iload_n 1, 1) := by decide +kernel
theorem dX12_turnLeaf_22 : decode cX12_turnLeaf 22 = .ok (.invokevirtual 73, 3) := by decide +kernel
theorem dX12_turnLeaf_25 : decode cX12_turnLeaf 25 = .ok (.ifCond .eq 7, 3) := by decide +kernel
theorem dX12_turnLeaf_28 : decode cX12_turnLeaf 28 = .ok (.iconst 1, 1) := by decide +kernel
theorem dX12_turnLeaf_29 : decode cX12_turnLeaf 29 = .ok (.goto 4, 3) := by decide +kernel
theorem dX12_turnLeaf_32 : decode cX12_turnLeaf 32 = .ok (.iconst 0, 1) := by decide +kernel
theorem dX12_turnLeaf_33 : decode cX12_turnLeaf 33 = .ok (.invokevirtual 345, 3) := by decide +kernel
theorem dX12_turnLeaf_36 : decode cX12_turnLeaf 36 = .ok (.ifCond .eq 5, 3) := by decide +kernel
theorem dX12_turnLeaf_39 : decode cX12_turnLeaf 39 = .ok (.iconst 0, 1) := by decide +kernel
theorem dX12_turnLeaf_40 : decode cX12_turnLeaf 40 = .ok (.ireturn, 1) := by decide +kernel
theorem dX12_turnLeaf_41 : decode cX12_turnLeaf 41 = .ok (.aload_n 0, 1) := by decide +kernel
theorem dX12_turnLeaf_42 : decode cX12_turnLeaf 42 = .ok (.invokevirtual 339, 3) := by decide +kernel
theorem dX12_turnLeaf_45 : decode cX12_turnLeaf 45 = .ok (.aload_n 0, 1) := by decide +kernel
theorem dX12_turnLeaf_46 : decode cX12_turnLeaf 46 = .ok (.aload_n 0, 1) := by decide +kernel
theorem dX12_turnLeaf_47 : decode cX12_turnLeaf 47 = .ok (.iload_n 1, 1) := by decide +kernel
theorem dX12_turnLeaf_48 : decode cX12_turnLeaf 48 = .ok (.invokevirtual 207, 3) := by decide +kernel
theorem dX12_turnLeaf_51 : decode cX12_turnLeaf 51 = .ok (.invokevirtual 342, 3) := by decide +kernel
theorem dX12_turnLeaf_54 : decode cX12_turnLeaf 54 = .ok (.ireturn, 1) := by decide +kernel
theorem dX12_discharge_0 : decode cX12_discharge 0 = .ok (.aload_n 0, 1) := by decide +kernel
theorem dX12_discharge_1 : decode cX12_discharge 1 = .ok (.iload_n 1, 1) := by decide +kernel
theorem dX12_discharge_2 : decode cX12_discharge 2 = .ok (.invokevirtual 348, 3) := by decide +kernel
theorem dX12_discharge_5 : decode cX12_discharge 5 = .ok (.istore_n 2, 1) := by decide +kernel
theorem dX12_discharge_6 : decode cX12_discharge 6 = .ok (.aload_n 0, 1) := by decide +kernel
theorem dX12_discharge_7 : decode cX12_discharge 7 = .ok (.iload_n 2, 1) := by decide +kernel
theorem dX12_discharge_8 : decode cX12_discharge 8 = .ok (.ifCond .ne 7, 3) := by decide +kernel
theorem dX12_discharge_11 : decode cX12_discharge 11 = .ok (.iconst 1, 1) := by decide +kernel
theorem dX12_discharge_12 : decode cX12_discharge 12 = .ok (.goto 4, 3) := by decide +kernel
theorem dX12_discharge_15 : decode cX12_discharge 15 = .ok (.iconst 0, 1) := by decide +kernel
theorem dX12_discharge_16 : decode cX12_discharge 16 = .ok (.iload_n 2, 1) := by decide +kernel
theorem dX12_discharge_17 : decode cX12_discharge 17 = .ok (.ifCond .eq 15, 3) := by decide +kernel
theorem dX12_discharge_20 : decode cX12_discharge 20 = .ok (.aload_n 0, 1) := by decide +kernel
theorem dX12_discharge_21 : decode cX12_discharge 21 = .ok (.iload_n 1, 1) := by decide +kernel
theorem dX12_discharge_22 : decode cX12_discharge 22 = .ok (.invokevirtual 210, 3) := by decide +kernel
theorem dX12_discharge_25 : decode cX12_discharge 25 = .ok (.ifCond .eq 7, 3) := by decide +kernel
theorem dX12_discharge_28 : decode cX12_discharge 28 = .ok (.iconst 1, 1) := by decide +kernel
theorem dX12_discharge_29 : decode cX12_discharge 29 = .ok (.goto 4, 3) := by decide +kernel
theorem dX12_discharge_32 : decode cX12_discharge 32 = .ok (.iconst 0, 1) := by decide +kernel
theorem dX12_discharge_33 : decode cX12_discharge 33 = .ok (.invokevirtual 345, 3) := by decide +kernel
theorem dX12_discharge_36 : decode cX12_discharge 36 = .ok (.ifCond .eq 5, 3) := by decide +kernel
theorem dX12_discharge_39 : decode cX12_discharge 39 = .ok (.iconst 0, 1) := by decide +kernel
theorem dX12_discharge_40 : decode cX12_discharge 40 = .ok (.ireturn, 1) := by decide +kernel
theorem dX12_discharge_41 : decode cX12_discharge 41 = .ok (.aload_n 0, 1) := by decide +kernel
theorem dX12_discharge_42 : decode cX12_discharge 42 = .ok (.invokevirtual 339, 3) := by decide +kernel
theorem dX12_discharge_45 : decode cX12_discharge 45 = .ok (.aload_n 0, 1) := by decide +kernel
theorem dX12_discharge_46 : decode cX12_discharge 46 = .ok (.aload_n 0, 1) := by decide +kernel
theorem dX12_discharge_47 : decode cX12_discharge 47 = .ok (.iload_n 1, 1) := by decide +kernel
theorem dX12_discharge_48 : decode cX12_discharge 48 = .ok (.invokevirtual 213, 3) := by decide +kernel
theorem dX12_discharge_51 : decode cX12_discharge 51 = .ok (.invokevirtual 342, 3) := by decide +kernel
theorem dX12_discharge_54 : decode cX12_discharge 54 = .ok (.ireturn, 1) := by decide +kernel
theorem dX12_discard_0 : decode cX12_discard 0 = .ok (.aload_n 0, 1) := by decide +kernel
theorem dX12_discard_1 : decode cX12_discard 1 = .ok (.iload_n 1, 1) := by decide +kernel
theorem dX12_discard_2 : decode cX12_discard 2 = .ok (.invokevirtual 348, 3) := by decide +kernel
theorem dX12_discard_5 : decode cX12_discard 5 = .ok (.istore_n 2, 1) := by decide +kernel
theorem dX12_discard_6 : decode cX12_discard 6 = .ok (.aload_n 0, 1) := by decide +kernel
theorem dX12_discard_7 : decode cX12_discard 7 = .ok (.iload_n 2, 1) := by decide +kernel
theorem dX12_discard_8 : decode cX12_discard 8 = .ok (.ifCond .ne 7, 3) := by decide +kernel
theorem dX12_discard_11 : decode cX12_discard 11 = .ok (.iconst 1, 1) := by decide +kernel
theorem dX12_discard_12 : decode cX12_discard 12 = .ok (.goto 4, 3) := by decide +kernel
theorem dX12_discard_15 : decode cX12_discard 15 = .ok (.iconst 0, 1) := by decide +kernel
theorem dX12_discard_16 : decode cX12_discard 16 = .ok (.iload_n 2, 1) := by decide +kernel
theorem dX12_discard_17 : decode cX12_discard 17 = .ok (.ifCond .eq 15, 3) := by decide +kernel
theorem dX12_discard_20 : decode cX12_discard 20 = .ok (.aload_n 0, 1) := by decide +kernel
theorem dX12_discard_21 : decode cX12_discard 21 = .ok (.iload_n 1, 1) := by decide +kernel
theorem dX12_discard_22 : decode cX12_discard 22 = .ok (.invokevirtual 73, 3) := by decide +kernel
theorem dX12_discard_25 : decode cX12_discard 25 = .ok (.ifCond .eq 7, 3) := by decide +kernel
theorem dX12_discard_28 : decode cX12_discard 28 = .ok (.iconst 1, 1) := by decide +kernel
theorem dX12_discard_29 : decode cX12_discard 29 = .ok (.goto 4, 3) := by decide +kernel
theorem dX12_discard_32 : decode cX12_discard 32 = .ok (.iconst 0, 1) := by decide +kernel
theorem dX12_discard_33 : decode cX12_discard 33 = .ok (.invokevirtual 345, 3) := by decide +kernel
theorem dX12_discard_36 : decode cX12_discard 36 = .ok (.ifCond .eq 5, 3) := by decide +kernel
theorem dX12_discard_39 : decode cX12_discard 39 = .ok (.iconst 0, 1) := by decide +kernel
theorem dX12_discard_40 : decode cX12_discard 40 = .ok (.ireturn, 1) := by decide +kernel
theorem dX12_discard_41 : decode cX12_discard 41 = .ok (.aload_n 0, 1) := by decide +kernel
theorem dX12_discard_42 : decode cX12_discard 42 = .ok (.invokevirtual 339, 3) := by decide +kernel
theorem dX12_discard_45 : decode cX12_discard 45 = .ok (.aload_n 0, 1) := by decide +kernel
theorem dX12_discard_46 : decode cX12_discard 46 = .ok (.aload_n 0, 1) := by decide +kernel
theorem dX12_discard_47 : decode cX12_discard 47 = .ok (.iload_n 1, 1) := by decide +kernel
theorem dX12_discard_48 : decode cX12_discard 48 = .ok (.bipush 13, 2) := by decide +kernel
theorem dX12_discard_50 : decode cX12_discard 50 = .ok (.invokevirtual 135, 3) := by decide +kernel
theorem dX12_discard_53 : decode cX12_discard 53 = .ok (.invokevirtual 342, 3) := by decide +kernel
theorem dX12_discard_56 : decode cX12_discard 56 = .ok (.ireturn, 1) := by decide +kernel
theorem dX12_isLayer_0 : decode cX12_isLayer 0 = .ok (.iload_n 0, 1) := by decide +kernel
theorem dX12_isLayer_1 : decode cX12_isLayer 1 = .ok (.iconst 0, 1) := by decide +kernel
theorem dX12_isLayer_2 : decode cX12_isLayer 2 = .ok (.iconst 1, 1) := by decide +kernel
theorem dX12_isLayer_3 : decode cX12_isLayer 3 = .ok (.invokestatic 57, 3) := by decide +kernel
theorem dX12_isLayer_6 : decode cX12_isLayer 6 = .ok (.ireturn, 1) := by decide +kernel
theorem dX12_addProbe_0 : decode cX12_addProbe 0 = .ok (.aload_n 0, 1) := by decide +kernel
theorem dX12_addProbe_1 : decode cX12_addProbe 1 = .ok (.aload_n 0, 1) := by decide +kernel
theorem dX12_addProbe_2 : decode cX12_addProbe 2 = .ok (.iload_n 1, 1) := by decide +kernel
theorem dX12_addProbe_3 : decode cX12_addProbe 3 = .ok (.invokevirtual 348, 3) := by decide +kernel
theorem dX12_addProbe_6 : decode cX12_addProbe 6 = .ok (.ifCond .ne 7, 3) := by decide +kernel
theorem dX12_addProbe_9 : decode cX12_addProbe 9 = .ok (.iconst 1, 1) := by decide +kernel
theorem dX12_addProbe_10 : decode cX12_addProbe 10 = .ok (.goto 4, 3) := by decide +kernel
theorem dX12_addProbe_13 : decode cX12_addProbe 13 = .ok (.iconst 0, 1) := by decide +kernel
theorem dX12_addProbe_14 : decode cX12_addProbe 14 = .ok (.iload_n 2, 1) := by decide +kernel
theorem dX12_addProbe_15 : decode cX12_addProbe 15 = .ok (.invokestatic 360, 3) := by decide +kernel
theorem dX12_addProbe_18 : decode cX12_addProbe 18 = .ok (.ifCond .eq 14, 3) := by decide +kernel
theorem dX12_addProbe_21 : decode cX12_addProbe 21 = .ok (.iload_n 3, 1) := by decide +kernel
theorem dX12_addProbe_22 : decode cX12_addProbe 22 = .ok (.bipush (-50), 2) := by decide +kernel
theorem dX12_addProbe_24 : decode cX12_addProbe 24 = .ok (.bipush 50, 2) := by decide +kernel
theorem dX12_addProbe_26 : decode cX12_addProbe 26 = .ok (.invokestatic 57, 3) := by decide +kernel
theorem dX12_addProbe_29 : decode cX12_addProbe 29 = .ok (.ifCond .ne 7, 3) := by decide +kernel
theorem dX12_addProbe_32 : decode cX12_addProbe 32 = .ok (.iconst 1, 1) := by decide +kernel
theorem dX12_addProbe_33 : decode cX12_addProbe 33 = .ok (.goto 4, 3) := by decide +kernel
theorem dX12_addProbe_36 : decode cX12_addProbe 36 = .ok (.iconst 0, 1) := by decide +kernel
theorem dX12_addProbe_37 : decode cX12_addProbe 37 = .ok (.aload_n 0, 1) := by decide +kernel
theorem dX12_addProbe_38 : decode cX12_addProbe 38 = .ok (.getfield 7, 3) := by decide +kernel
theorem dX12_addProbe_41 : decode cX12_addProbe 41 = .ok (.bipush 10, 2) := by decide +kernel
theorem dX12_addProbe_43 : decode cX12_addProbe 43 = .ok (.iaload, 1) := by decide +kernel
theorem dX12_addProbe_44 : decode cX12_addProbe 44 = .ok (.bipush 6, 2) := by decide +kernel
theorem dX12_addProbe_46 : decode cX12_addProbe 46 = .ok (.if_icmp .ne 7, 3) := by decide +kernel
theorem dX12_addProbe_49 : decode cX12_addProbe 49 = .ok (.iconst 1, 1) := by decide +kernel
theorem dX12_addProbe_50 : decode cX12_addProbe 50 = .ok (.goto 4, 3) := by decide +kernel
theorem dX12_addProbe_53 : decode cX12_addProbe 53 = .ok (.iconst 0, 1) := by decide +kernel
theorem dX12_addProbe_54 : decode cX12_addProbe 54 = .ok (.invokevirtual 351, 3) := by decide +kernel
theorem dX12_addProbe_57 : decode cX12_addProbe 57 = .ok (.ifCond .eq 5, 3) := by decide +kernel
theorem dX12_addProbe_60 : decode cX12_addProbe 60 = .ok (.iconst 0, 1) := by decide +kernel
theorem dX12_addProbe_61 : decode cX12_addProbe 61 = .ok (.ireturn, 1) := by decide +kernel
theorem dX12_addProbe_62 : decode cX12_addProbe 62 = .ok (.aload_n 0, 1) := by decide +kernel
theorem dX12_addProbe_63 : decode cX12_addProbe 63 = .ok (.invokevirtual 339, 3) := by decide +kernel
theorem dX12_addProbe_66 : decode cX12_addProbe 66 = .ok (.aload_n 0, 1) := by decide +kernel
theorem dX12_addProbe_67 : decode cX12_addProbe 67 = .ok (.aload_n 0, 1) := by decide +kernel
theorem dX12_addProbe_68 : decode cX12_addProbe 68 = .ok (.iload_n 1, 1) := by decide +kernel
theorem dX12_addProbe_69 : decode cX12_addProbe 69 = .ok (.iload_n 2, 1) := by decide +kernel
theorem dX12_addProbe_70 : decode cX12_addProbe 70 = .ok (.iload_n 3, 1) := by decide +kernel
theorem dX12_addProbe_71 : decode cX12_addProbe 71 = .ok (.invokevirtual 228, 3) := by decide +kernel
theorem dX12_addProbe_74 : decode cX12_addProbe 74 = .ok (.invokevirtual 342, 3) := by decide +kernel
theorem dX12_addProbe_77 : decode cX12_addProbe 77 = .ok (.ireturn, 1) := by decide +kernel
theorem dX12_moveProbe_0 : decode cX12_moveProbe 0 = .ok (.aload_n 0, 1) := by decide +kernel
theorem dX12_moveProbe_1 : decode cX12_moveProbe 1 = .ok (.aload_n 0, 1) := by decide +kernel
theorem dX12_moveProbe_2 : decode cX12_moveProbe 2 = .ok (.iload_n 1, 1) := by decide +kernel
theorem dX12_moveProbe_3 : decode cX12_moveProbe 3 = .ok (.invokevirtual 363, 3) := by decide +kernel
theorem dX12_moveProbe_6 : decode cX12_moveProbe 6 = .ok (.ifCond .eq 11, 3) := by decide +kernel
theorem dX12_moveProbe_9 : decode cX12_moveProbe 9 = .ok (.aload_n 0, 1) := by decide +kernel
theorem dX12_moveProbe_10 : decode cX12_moveProbe 10 = .ok (.iload_n 2, 1) := by decide +kernel
theorem dX12_moveProbe_11 : decode cX12_moveProbe 11 = .ok (.invokevirtual 348, 3) := by decide +kernel
theorem dX12_moveProbe_14 : decode cX12_moveProbe 14 = .ok (.ifCond .ne 7, 3) := by decide +kernel
theorem dX12_moveProbe_17 : decode cX12_moveProbe 17 = .ok (.iconst 1, 1) := by decide +kernel
theorem dX12_moveProbe_18 : decode cX12_moveProbe 18 = .ok (.goto 4, 3) := by decide +kernel
theorem dX12_moveProbe_21 : decode cX12_moveProbe 21 = .ok (.iconst 0, 1) := by decide +kernel
theorem dX12_moveProbe_22 : decode cX12_moveProbe 22 = .ok (.iload_n 3, 1) := by decide +kernel
theorem dX12_moveProbe_23 : decode cX12_moveProbe 23 = .ok (.invokestatic 360, 3) := by decide +kernel
theorem dX12_moveProbe_26 : decode cX12_moveProbe 26 = .ok (.ifCond .ne 7, 3) := by decide +kernel
theorem dX12_moveProbe_29 : decode cX12_moveProbe 29 = .ok (.iconst 1, 1) := by decide +kernel
theorem dX12_moveProbe_30 : decode cX12_moveProbe 30 = .ok (.goto 4, 3) := by decide +kernel
theorem dX12_moveProbe_33 : decode cX12_moveProbe 33 = .ok (.iconst 0, 1) := by decide +kernel
theorem dX12_moveProbe_34 : decode cX12_moveProbe 34 = .ok (.invokevirtual 345, 3) := by decide +kernel
theorem dX12_moveProbe_37 : decode cX12_moveProbe 37 = .ok (.ifCond .eq 5, 3) := by decide +kernel
theorem dX12_moveProbe_40 : decode cX12_moveProbe 40 = .ok (.iconst 0, 1) := by decide +kernel
theorem dX12_moveProbe_41 : decode cX12_moveProbe 41 = .ok (.ireturn, 1) := by decide +kernel
theorem dX12_moveProbe_42 : decode cX12_moveProbe 42 = .ok (.aload_n 0, 1) := by decide +kernel
theorem dX12_moveProbe_43 : decode cX12_moveProbe 43 = .ok (.invokevirtual 339, 3) := by decide +kernel
theorem dX12_moveProbe_46 : decode cX12_moveProbe 46 = .ok (.aload_n 0, 1) := by decide +kernel
theorem dX12_moveProbe_47 : decode cX12_moveProbe 47 = .ok (.getfield 7, 3) := by decide +kernel
theorem dX12_moveProbe_50 : decode cX12_moveProbe 50 = .ok (.bipush 89, 2) := by decide +kernel
theorem dX12_moveProbe_52 : decode cX12_moveProbe 52 = .ok (.iconst 3, 1) := by decide +kernel
theorem dX12_moveProbe_53 : decode cX12_moveProbe 53 = .ok (.iload_n 1, 1) := by decide +kernel
theorem dX12_moveProbe_54 : decode cX12_moveProbe 54 = .ok (.imul, 1) := by decide +kernel
theorem dX12_moveProbe_55 : decode cX12_moveProbe 55 = .ok (.iadd, 1) := by decide +kernel
theorem dX12_moveProbe_56 : decode cX12_moveProbe 56 = .ok (.iconst 1, 1) := by decide +kernel
theorem dX12_moveProbe_57 : decode cX12_moveProbe 57 = .ok (.iadd, 1) := by decide +kernel
theorem dX12_moveProbe_58 : decode cX12_moveProbe 58 = .ok (.iload_n 3, 1) := by decide +kernel
theorem dX12_moveProbe_59 : decode cX12_moveProbe 59 = .ok (.iastore, 1) := by decide +kernel
theorem dX12_moveProbe_60 : decode cX12_moveProbe 60 = .ok (.aload_n 0, 1) := by decide +kernel
theorem dX12_moveProbe_61 : decode cX12_moveProbe 61 = .ok (.aload_n 0, 1) := by decide +kernel
theorem dX12_moveProbe_62 : decode cX12_moveProbe 62 = .ok (.bipush 89, 2) := by decide +kernel
theorem dX12_moveProbe_64 : decode cX12_moveProbe 64 = .ok (.iconst 3, 1) := by decide +kernel
theorem dX12_moveProbe_65 : decode cX12_moveProbe 65 = .ok (.iload_n 1, 1) := by decide +kernel
theorem dX12_moveProbe_66 : decode cX12_moveProbe 66 = .ok (.imul, 1) := by decide +kernel
theorem dX12_moveProbe_67 : decode cX12_moveProbe 67 = .ok (.iadd, 1) := by decide +kernel
theorem dX12_moveProbe_68 : decode cX12_moveProbe 68 = .ok (.iconst 0, 1) := by decide +kernel
theorem dX12_moveProbe_69 : decode cX12_moveProbe 69 = .ok (.iadd, 1) := by decide +kernel
theorem dX12_moveProbe_70 : decode cX12_moveProbe 70 = .ok (.iload_n 2, 1) := by decide +kernel
theorem dX12_moveProbe_71 : decode cX12_moveProbe 71 = .ok (.invokevirtual 354, 3) := by decide +kernel
theorem dX12_moveProbe_74 : decode cX12_moveProbe 74 = .ok (.invokevirtual 342, 3) := by decide +kernel
theorem dX12_moveProbe_77 : decode cX12_moveProbe 77 = .ok (.ireturn, 1) := by decide +kernel
theorem dX12_calibrate_0 : decode cX12_calibrate 0 = .ok (.aload_n 0, 1) := by decide +kernel
theorem dX12_calibrate_1 : decode cX12_calibrate 1 = .ok (.aload_n 0, 1) := by decide +kernel
theorem dX12_calibrate_2 : decode cX12_calibrate 2 = .ok (.iload_n 1, 1) := by decide +kernel
theorem dX12_calibrate_3 : decode cX12_calibrate 3 = .ok (.invokevirtual 363, 3) := by decide +kernel
theorem dX12_calibrate_6 : decode cX12_calibrate 6 = .ok (.ifCond .ne 7, 3) := by decide +kernel
theorem dX12_calibrate_9 : decode cX12_calibrate 9 = .ok (.iconst 1, 1) := by decide +kernel
theorem dX12_calibrate_10 : decode cX12_calibrate 10 = .ok (.goto 4, 3) := by decide +kernel
theorem dX12_calibrate_13 : decode cX12_calibrate 13 = .ok (.iconst 0, 1) := by decide +kernel
theorem dX12_calibrate_14 : decode cX12_calibrate 14 = .ok (.invokevirtual 333, 3) := by decide +kernel
theorem dX12_calibrate_17 : decode cX12_calibrate 17 = .ok (.ifCond .eq 7, 3) := by decide +kernel
theorem dX12_calibrate_20 : decode cX12_calibrate 20 = .ok (.iconst 0, 1) := by decide +kernel
theorem dX12_calibrate_21 : decode cX12_calibrate 21 = .ok (.goto 16, 3) := by decide +kernel
theorem dX12_calibrate_24 : decode cX12_calibrate 24 = .ok (.aload_n 0, 1) := by decide +kernel
theorem dX12_calibrate_25 : decode cX12_calibrate 25 = .ok (.bipush 89, 2) := by decide +kernel
theorem dX12_calibrate_27 : decode cX12_calibrate 27 = .ok (.iconst 3, 1) := by decide +kernel
theorem dX12_calibrate_28 : decode cX12_calibrate 28 = .ok (.iload_n 1, 1) := by decide +kernel
theorem dX12_calibrate_29 : decode cX12_calibrate 29 = .ok (.imul, 1) := by decide +kernel
theorem dX12_calibrate_30 : decode cX12_calibrate 30 = .ok (.iadd, 1) := by decide +kernel
theorem dX12_calibrate_31 : decode cX12_calibrate 31 = .ok (.iconst 2, 1) := by decide +kernel
theorem dX12_calibrate_32 : decode cX12_calibrate 32 = .ok (.iadd, 1) := by decide +kernel
theorem dX12_calibrate_33 : decode cX12_calibrate 33 = .ok (.iconst 0, 1) := by decide +kernel
theorem dX12_calibrate_34 : decode cX12_calibrate 34 = .ok (.invokevirtual 357, 3) := by decide +kernel
theorem dX12_calibrate_37 : decode cX12_calibrate 37 = .ok (.ireturn, 1) := by decide +kernel
theorem dX12_passHours_0 : decode cX12_passHours 0 = .ok (.iload_n 1, 1) := by decide +kernel
theorem dX12_passHours_1 : decode cX12_passHours 1 = .ok (.iconst 1, 1) := by decide +kernel
theorem dX12_passHours_2 : decode cX12_passHours 2 = .ok (.sipush 200, 3) := by decide +kernel
theorem dX12_passHours_5 : decode cX12_passHours 5 = .ok (.invokestatic 57, 3) := by decide +kernel
theorem dX12_passHours_8 : decode cX12_passHours 8 = .ok (.ifCond .ne 7, 3) := by decide +kernel
theorem dX12_passHours_11 : decode cX12_passHours 11 = .ok (.iconst 1, 1) := by decide +kernel
theorem dX12_passHours_12 : decode cX12_passHours 12 = .ok (.goto 4, 3) := by decide +kernel
theorem dX12_passHours_15 : decode cX12_passHours 15 = .ok (.iconst 0, 1) := by decide +kernel
theorem dX12_passHours_16 : decode cX12_passHours 16 = .ok (.istore_n 2, 1) := by decide +kernel
theorem dX12_passHours_17 : decode cX12_passHours 17 = .ok (.aload_n 0, 1) := by decide +kernel
theorem dX12_passHours_18 : decode cX12_passHours 18 = .ok (.iload_n 2, 1) := by decide +kernel
theorem dX12_passHours_19 : decode cX12_passHours 19 = .ok (.iload_n 2, 1) := by decide +kernel
theorem dX12_passHours_20 : decode cX12_passHours 20 = .ok (.ifCond .ne 21, 3) := by decide +kernel
theorem dX12_passHours_23 : decode cX12_passHours 23 = .ok (.aload_n 0, 1) := by decide +kernel
theorem dX12_passHours_24 : decode cX12_passHours 24 = .ok (.getfield 7, 3) := by decide +kernel
theorem dX12_passHours_27 : decode cX12_passHours 27 = .ok (.iconst 0, 1) := by decide +kernel
theorem dX12_passHours_28 : decode cX12_passHours 28 = .ok (.iaload, 1) := by decide +kernel
theorem dX12_passHours_29 : decode cX12_passHours 29 = .ok (.iload_n 1, 1) := by decide +kernel
theorem dX12_passHours_30 : decode cX12_passHours 30 = .ok (.iadd, 1) := by decide +kernel
theorem dX12_passHours_31 : decode cX12_passHours 31 = .ok (.sipush 2000, 3) := by decide +kernel
theorem dX12_passHours_34 : decode cX12_passHours 34 = .ok (.if_icmp .le 7, 3) := by decide +kernel
theorem dX12_passHours_37 : decode cX12_passHours 37 = .ok (.iconst 1, 1) := by decide +kernel
theorem dX12_passHours_38 : decode cX12_passHours 38 = .ok (.goto 4, 3) := by decide +kernel
theorem dX12_passHours_41 : decode cX12_passHours 41 = .ok (.iconst 0, 1) := by decide +kernel
theorem dX12_passHours_42 : decode cX12_passHours 42 = .ok (.invokevirtual 345, 3) := by decide +kernel
theorem dX12_passHours_45 : decode cX12_passHours 45 = .ok (.ifCond .eq 5, 3) := by decide +kernel
theorem dX12_passHours_48 : decode cX12_passHours 48 = .ok (.iconst 0, 1) := by decide +kernel
theorem dX12_passHours_49 : decode cX12_passHours 49 = .ok (.ireturn, 1) := by decide +kernel
theorem dX12_passHours_50 : decode cX12_passHours 50 = .ok (.aload_n 0, 1) := by decide +kernel
theorem dX12_passHours_51 : decode cX12_passHours 51 = .ok (.invokevirtual 339, 3) := by decide +kernel
theorem dX12_passHours_54 : decode cX12_passHours 54 = .ok (.aload_n 0, 1) := by decide +kernel
theorem dX12_passHours_55 : decode cX12_passHours 55 = .ok (.aload_n 0, 1) := by decide +kernel
theorem dX12_passHours_56 : decode cX12_passHours 56 = .ok (.iload_n 1, 1) := by decide +kernel
theorem dX12_passHours_57 : decode cX12_passHours 57 = .ok (.invokevirtual 231, 3) := by decide +kernel
theorem dX12_passHours_60 : decode cX12_passHours 60 = .ok (.invokevirtual 342, 3) := by decide +kernel
theorem dX12_passHours_63 : decode cX12_passHours 63 = .ok (.ireturn, 1) := by decide +kernel
theorem dX12_undo_0 : decode cX12_undo 0 = .ok (.aload_n 0, 1) := by decide +kernel
theorem dX12_undo_1 : decode cX12_undo 1 = .ok (.iconst 0, 1) := by decide +kernel
theorem dX12_undo_2 : decode cX12_undo 2 = .ok (.putfield 54, 3) := by decide +kernel
theorem dX12_undo_5 : decode cX12_undo 5 = .ok (.aload_n 0, 1) := by decide +kernel
theorem dX12_undo_6 : decode cX12_undo 6 = .ok (.getfield 336, 3) := by decide +kernel
theorem dX12_undo_9 : decode cX12_undo 9 = .ok (.ifCond .ne 5, 3) := by decide +kernel
theorem dX12_undo_12 : decode cX12_undo 12 = .ok (.iconst (-1), 1) := by decide +kernel
theorem dX12_undo_13 : decode cX12_undo 13 = .ok (.ireturn, 1) := by decide +kernel
theorem dX12_undo_14 : decode cX12_undo 14 = .ok (.aload_n 0, 1) := by decide +kernel
theorem dX12_undo_15 : decode cX12_undo 15 = .ok (.dup, 1) := by decide +kernel
theorem dX12_undo_16 : decode cX12_undo 16 = .ok (.getfield 336, 3) := by decide +kernel
theorem dX12_undo_19 : decode cX12_undo 19 = .ok (.iconst 1, 1) := by decide +kernel
theorem dX12_undo_20 : decode cX12_undo 20 = .ok (.isub, 1) := by decide +kernel
theorem dX12_undo_21 : decode cX12_undo 21 = .ok (.putfield 336, 3) := by decide +kernel
theorem dX12_undo_24 : decode cX12_undo 24 = .ok (.iconst 0, 1) := by decide +kernel
theorem dX12_undo_25 : decode cX12_undo 25 = .ok (.istore_n 1, 1) := by decide +kernel
theorem dX12_undo_26 : decode cX12_undo 26 = .ok (.iload_n 1, 1) := by decide +kernel
theorem dX12_undo_27 : decode cX12_undo 27 = .ok (.bipush 107, 2) := by decide +kernel
theorem dX12_undo_29 : decode cX12_undo 29 = .ok (.if_icmp .ge 29, 3) := by decide +kernel
theorem dX12_undo_32 : decode cX12_undo 32 = .ok (.aload_n 0, 1) := by decide +kernel
theorem dX12_undo_33 : decode cX12_undo 33 = .ok (.getfield 7, 3) := by decide +kernel
theorem dX12_undo_36 : decode cX12_undo 36 = .ok (.iload_n 1, 1) := by decide +kernel
theorem dX12_undo_37 : decode cX12_undo 37 = .ok (.aload_n 0, 1) := by decide +kernel
theorem dX12_undo_38 : decode cX12_undo 38 = .ok (.getfield 19, 3) := by decide +kernel
theorem dX12_undo_41 : decode cX12_undo 41 = .ok (.bipush 107, 2) := by decide +kernel
theorem dX12_undo_43 : decode cX12_undo 43 = .ok (.aload_n 0, 1) := by decide +kernel
theorem dX12_undo_44 : decode cX12_undo 44 = .ok (.getfield 336, 3) := by decide +kernel
theorem dX12_undo_47 : decode cX12_undo 47 = .ok (.imul, 1) := by decide +kernel
theorem dX12_undo_48 : decode cX12_undo 48 = .ok (.iload_n 1, 1) := by decide +kernel
theorem dX12_undo_49 : decode cX12_undo 49 = .ok (.iadd, 1) := by decide +kernel
theorem dX12_undo_50 : decode cX12_undo 50 = .ok (.iaload, 1) := by decide +kernel
theorem dX12_undo_51 : decode cX12_undo 51 = .ok (.iastore, 1) := by decide +kernel
theorem dX12_undo_52 : decode cX12_undo 52 = .ok (.iinc 1 1, 3) := by decide +kernel
theorem dX12_undo_55 : decode cX12_undo 55 = .ok (.goto (-29), 3) := by decide +kernel
theorem dX12_undo_58 : decode cX12_undo 58 = .ok (.aload_n 0, 1) := by decide +kernel
theorem dX12_undo_59 : decode cX12_undo 59 = .ok (.getfield 336, 3) := by decide +kernel
theorem dX12_undo_62 : decode cX12_undo 62 = .ok (.ireturn, 1) := by decide +kernel
theorem dX12_undoCount_0 : decode cX12_undoCount 0 = .ok (.aload_n 0, 1) := by decide +kernel
theorem dX12_undoCount_1 : decode cX12_undoCount 1 = .ok (.iconst 0, 1) := by decide +kernel
theorem dX12_undoCount_2 : decode cX12_undoCount 2 = .ok (.putfield 54, 3) := by decide +kernel
theorem dX12_undoCount_5 : decode cX12_undoCount 5 = .ok (.aload_n 0, 1) := by decide +kernel
theorem dX12_undoCount_6 : decode cX12_undoCount 6 = .ok (.getfield 336, 3) := by decide +kernel
theorem dX12_undoCount_9 : decode cX12_undoCount 9 = .ok (.ireturn, 1) := by decide +kernel
theorem dX12_saveSnapshot_0 : decode cX12_saveSnapshot 0 = .ok (.aload_n 0, 1) := by decide +kernel
theorem dX12_saveSnapshot_1 : decode cX12_saveSnapshot 1 = .ok (.iconst 0, 1) := by decide +kernel
theorem dX12_saveSnapshot_2 : decode cX12_saveSnapshot 2 = .ok (.putfield 54, 3) := by decide +kernel
theorem dX12_saveSnapshot_5 : decode cX12_saveSnapshot 5 = .ok (.aload_n 0, 1) := by decide +kernel
theorem dX12_saveSnapshot_6 : decode cX12_saveSnapshot 6 = .ok (.iconst 1, 1) := by decide +kernel
theorem dX12_saveSnapshot_7 : decode cX12_saveSnapshot 7 = .ok (.putfield 366, 3) := by decide +kernel
theorem dX12_saveSnapshot_10 : decode cX12_saveSnapshot 10 = .ok (.iconst 0, 1) := by decide +kernel
theorem dX12_saveSnapshot_11 : decode cX12_saveSnapshot 11 = .ok (.istore_n 1, 1) := by decide +kernel
theorem dX12_saveSnapshot_12 : decode cX12_saveSnapshot 12 = .ok (.iload_n 1, 1) := by decide +kernel
theorem dX12_saveSnapshot_13 : decode cX12_saveSnapshot 13 = .ok (.bipush 107, 2) := by decide +kernel
theorem dX12_saveSnapshot_15 : decode cX12_saveSnapshot 15 = .ok (.if_icmp .ge 21, 3) := by decide +kernel
theorem dX12_saveSnapshot_18 : decode cX12_saveSnapshot 18 = .ok (.aload_n 0, 1) := by decide +kernel
theorem dX12_saveSnapshot_19 : decode cX12_saveSnapshot 19 = .ok (.getfield 22, 3) := by decide +kernel
theorem dX12_saveSnapshot_22 : decode cX12_saveSnapshot 22 = .ok (.iload_n 1, 1) := by decide +kernel
theorem dX12_saveSnapshot_23 : decode cX12_saveSnapshot 23 = .ok (.aload_n 0, 1) := by decide +kernel
theorem dX12_saveSnapshot_24 : decode cX12_saveSnapshot 24 = .ok (.getfield 7, 3) := by decide +kernel
theorem dX12_saveSnapshot_27 : decode cX12_saveSnapshot 27 = .ok (.iload_n 1, 1) := by decide +kernel
theorem dX12_saveSnapshot_28 : decode cX12_saveSnapshot 28 = .ok (.iaload, 1) := by decide +kernel
theorem dX12_saveSnapshot_29 : decode cX12_saveSnapshot 29 = .ok (.iastore, 1) := by decide +kernel
theorem dX12_saveSnapshot_30 : decode cX12_saveSnapshot 30 = .ok (.iinc 1 1, 3) := by decide +kernel
theorem dX12_saveSnapshot_33 : decode cX12_saveSnapshot 33 = .ok (.goto (-21), 3) := by decide +kernel
theorem dX12_saveSnapshot_36 : decode cX12_saveSnapshot 36 = .ok (.aload_n 0, 1) := by decide +kernel
theorem dX12_saveSnapshot_37 : decode cX12_saveSnapshot 37 = .ok (.getfield 7, 3) := by decide +kernel
theorem dX12_saveSnapshot_40 : decode cX12_saveSnapshot 40 = .ok (.iconst 0, 1) := by decide +kernel
theorem dX12_saveSnapshot_41 : decode cX12_saveSnapshot 41 = .ok (.iaload, 1) := by decide +kernel
theorem dX12_saveSnapshot_42 : decode cX12_saveSnapshot 42 = .ok (.ireturn, 1) := by decide +kernel
theorem dX12_restoreSnapshot_0 : decode cX12_restoreSnapshot 0 = .ok (.aload_n 0, 1) := by decide +kernel
theorem dX12_restoreSnapshot_1 : decode cX12_restoreSnapshot 1 = .ok (.aload_n 0, 1) := by decide +kernel
theorem dX12_restoreSnapshot_2 : decode cX12_restoreSnapshot 2 = .ok (.getfield 366, 3) := by decide +kernel
theorem dX12_restoreSnapshot_5 : decode cX12_restoreSnapshot 5 = .ok (.ifCond .ne 7, 3) := by decide +kernel
theorem dX12_restoreSnapshot_8 : decode cX12_restoreSnapshot 8 = .ok (.iconst 1, 1) := by decide +kernel
theorem dX12_restoreSnapshot_9 : decode cX12_restoreSnapshot 9 = .ok (.goto 4, 3) := by decide +kernel
theorem dX12_restoreSnapshot_12 : decode cX12_restoreSnapshot 12 = .ok (.iconst 0, 1) := by decide +kernel
theorem dX12_restoreSnapshot_13 : decode cX12_restoreSnapshot 13 = .ok (.invokevirtual 333, 3) := by decide +kernel
theorem dX12_restoreSnapshot_16 : decode cX12_restoreSnapshot 16 = .ok (.ifCond .eq 5, 3) := by decide +kernel
theorem dX12_restoreSnapshot_19 : decode cX12_restoreSnapshot 19 = .ok (.iconst 0, 1) := by decide +kernel
theorem dX12_restoreSnapshot_20 : decode cX12_restoreSnapshot 20 = .ok (.ireturn, 1) := by decide +kernel
theorem dX12_restoreSnapshot_21 : decode cX12_restoreSnapshot 21 = .ok (.iconst 0, 1) := by decide +kernel
theorem dX12_restoreSnapshot_22 : decode cX12_restoreSnapshot 22 = .ok (.istore_n 1, 1) := by decide +kernel
theorem dX12_restoreSnapshot_23 : decode cX12_restoreSnapshot 23 = .ok (.iload_n 1, 1) := by decide +kernel
theorem dX12_restoreSnapshot_24 : decode cX12_restoreSnapshot 24 = .ok (.bipush 107, 2) := by decide +kernel
theorem dX12_restoreSnapshot_26 : decode cX12_restoreSnapshot 26 = .ok (.if_icmp .ge 21, 3) := by decide +kernel
theorem dX12_restoreSnapshot_29 : decode cX12_restoreSnapshot 29 = .ok (.aload_n 0, 1) := by decide +kernel
theorem dX12_restoreSnapshot_30 : decode cX12_restoreSnapshot 30 = .ok (.getfield 7, 3) := by decide +kernel
theorem dX12_restoreSnapshot_33 : decode cX12_restoreSnapshot 33 = .ok (.iload_n 1, 1) := by decide +kernel
theorem dX12_restoreSnapshot_34 : decode cX12_restoreSnapshot 34 = .ok (.aload_n 0, 1) := by decide +kernel
theorem dX12_restoreSnapshot_35 : decode cX12_restoreSnapshot 35 = .ok (.getfield 22, 3) := by decide +kernel
theorem dX12_restoreSnapshot_38 : decode cX12_restoreSnapshot 38 = .ok (.iload_n 1, 1) := by decide +kernel
theorem dX12_restoreSnapshot_39 : decode cX12_restoreSnapshot 39 = .ok (.iaload, 1) := by decide +kernel
theorem dX12_restoreSnapshot_40 : decode cX12_restoreSnapshot 40 = .ok (.iastore, 1) := by decide +kernel
theorem dX12_restoreSnapshot_41 : decode cX12_restoreSnapshot 41 = .ok (.iinc 1 1, 3) := by decide +kernel
theorem dX12_restoreSnapshot_44 : decode cX12_restoreSnapshot 44 = .ok (.goto (-21), 3) := by decide +kernel
theorem dX12_restoreSnapshot_47 : decode cX12_restoreSnapshot 47 = .ok (.aload_n 0, 1) := by decide +kernel
theorem dX12_restoreSnapshot_48 : decode cX12_restoreSnapshot 48 = .ok (.iconst 0, 1) := by decide +kernel
theorem dX12_restoreSnapshot_49 : decode cX12_restoreSnapshot 49 = .ok (.putfield 336, 3) := by decide +kernel
theorem dX12_restoreSnapshot_52 : decode cX12_restoreSnapshot 52 = .ok (.aload_n 0, 1) := by decide +kernel
theorem dX12_restoreSnapshot_53 : decode cX12_restoreSnapshot 53 = .ok (.getfield 7, 3) := by decide +kernel
theorem dX12_restoreSnapshot_56 : decode cX12_restoreSnapshot 56 = .ok (.iconst 0, 1) := by decide +kernel
theorem dX12_restoreSnapshot_57 : decode cX12_restoreSnapshot 57 = .ok (.iaload, 1) := by decide +kernel
theorem dX12_restoreSnapshot_58 : decode cX12_restoreSnapshot 58 = .ok (.ireturn, 1) := by decide +kernel
theorem dX12_scriptErrorKind_0 : decode cX12_scriptErrorKind 0 = .ok (.aload_n 0, 1) := by decide +kernel
theorem dX12_scriptErrorKind_1 : decode cX12_scriptErrorKind 1 = .ok (.iconst 0, 1) := by decide +kernel
theorem dX12_scriptErrorKind_2 : decode cX12_scriptErrorKind 2 = .ok (.putfield 54, 3) := by decide +kernel
theorem dX12_scriptErrorKind_5 : decode cX12_scriptErrorKind 5 = .ok (.aload_n 0, 1) := by decide +kernel
theorem dX12_scriptErrorKind_6 : decode cX12_scriptErrorKind 6 = .ok (.getfield 165, 3) := by decide +kernel
theorem dX12_scriptErrorKind_9 : decode cX12_scriptErrorKind 9 = .ok (.ireturn, 1) := by decide +kernel
theorem dX12_scriptErrorOffset_0 : decode cX12_scriptErrorOffset 0 = .ok (.aload_n 0, 1) := by decide +kernel
theorem dX12_scriptErrorOffset_1 : decode cX12_scriptErrorOffset 1 = .ok (.iconst 0, 1) := by decide +kernel
theorem dX12_scriptErrorOffset_2 : decode cX12_scriptErrorOffset 2 = .ok (.putfield 54, 3) := by decide +kernel
theorem dX12_scriptErrorOffset_5 : decode cX12_scriptErrorOffset 5 = .ok (.aload_n 0, 1) := by decide +kernel
theorem dX12_scriptErrorOffset_6 : decode cX12_scriptErrorOffset 6 = .ok (.getfield 31, 3) := by decide +kernel
theorem dX12_scriptErrorOffset_9 : decode cX12_scriptErrorOffset 9 = .ok (.ireturn, 1) := by decide +kernel
theorem dX12_told_0 : decode cX12_told 0 = .ok (.aload_n 0, 1) := by decide +kernel
theorem dX12_told_1 : decode cX12_told 1 = .ok (.iconst 0, 1) := by decide +kernel
theorem dX12_told_2 : decode cX12_told 2 = .ok (.putfield 54, 3) := by decide +kernel
theorem dX12_told_5 : decode cX12_told 5 = .ok (.aload_n 0, 1) := by decide +kernel
theorem dX12_told_6 : decode cX12_told 6 = .ok (.getfield 7, 3) := by decide +kernel
theorem dX12_told_9 : decode cX12_told 9 = .ok (.iload_n 1, 1) := by decide +kernel
theorem dX12_told_10 : decode cX12_told 10 = .ok (.iaload, 1) := by decide +kernel
theorem dX12_told_11 : decode cX12_told 11 = .ok (.ireturn, 1) := by decide +kernel
theorem dX12_hour_0 : decode cX12_hour 0 = .ok (.aload_n 0, 1) := by decide +kernel
theorem dX12_hour_1 : decode cX12_hour 1 = .ok (.iconst 0, 1) := by decide +kernel
theorem dX12_hour_2 : decode cX12_hour 2 = .ok (.invokevirtual 370, 3) := by decide +kernel
theorem dX12_hour_5 : decode cX12_hour 5 = .ok (.ireturn, 1) := by decide +kernel
theorem dX12_day_0 : decode cX12_day 0 = .ok (.aload_n 0, 1) := by decide +kernel
theorem dX12_day_1 : decode cX12_day 1 = .ok (.iconst 0, 1) := by decide +kernel
theorem dX12_day_2 : decode cX12_day 2 = .ok (.invokevirtual 370, 3) := by decide +kernel
theorem dX12_day_5 : decode cX12_day 5 = .ok (.bipush 24, 2) := by decide +kernel
theorem dX12_day_7 : decode cX12_day 7 = .ok (.idiv, 1) := by decide +kernel
theorem dX12_day_8 : decode cX12_day 8 = .ok (.ireturn, 1) := by decide +kernel
theorem dX12_humidityAt_0 : decode cX12_humidityAt 0 = .ok (.aload_n 0, 1) := by decide +kernel
theorem dX12_humidityAt_1 : decode cX12_humidityAt 1 = .ok (.iload_n 1, 1) := by decide +kernel
theorem dX12_humidityAt_2 : decode cX12_humidityAt 2 = .ok (.iconst 0, 1) := by decide +kernel
theorem dX12_humidityAt_3 : decode cX12_humidityAt 3 = .ok (.sipush 2000, 3) := by decide +kernel
theorem dX12_humidityAt_6 : decode cX12_humidityAt 6 = .ok (.invokestatic 57, 3) := by decide +kernel
theorem dX12_humidityAt_9 : decode cX12_humidityAt 9 = .ok (.ifCond .ne 7, 3) := by decide +kernel
theorem dX12_humidityAt_12 : decode cX12_humidityAt 12 = .ok (.iconst 1, 1) := by decide +kernel
theorem dX12_humidityAt_13 : decode cX12_humidityAt 13 = .ok (.goto 4, 3) := by decide +kernel
theorem dX12_humidityAt_16 : decode cX12_humidityAt 16 = .ok (.iconst 0, 1) := by decide +kernel
theorem dX12_humidityAt_17 : decode cX12_humidityAt 17 = .ok (.invokevirtual 333, 3) := by decide +kernel
theorem dX12_humidityAt_20 : decode cX12_humidityAt 20 = .ok (.ifCond .eq 7, 3) := by decide +kernel
theorem dX12_humidityAt_23 : decode cX12_humidityAt 23 = .ok (.iconst 0, 1) := by decide +kernel
theorem dX12_humidityAt_24 : decode cX12_humidityAt 24 = .ok (.goto 8, 3) := by decide +kernel
theorem dX12_humidityAt_27 : decode cX12_humidityAt 27 = .ok (.aload_n 0, 1) := by decide +kernel
theorem dX12_humidityAt_28 : decode cX12_humidityAt 28 = .ok (.iload_n 1, 1) := by decide +kernel
theorem dX12_humidityAt_29 : decode cX12_humidityAt 29 = .ok (.invokevirtual 69, 3) := by decide +kernel
theorem dX12_humidityAt_32 : decode cX12_humidityAt 32 = .ok (.ireturn, 1) := by decide +kernel
theorem dX12_dryness_0 : decode cX12_dryness 0 = .ok (.aload_n 0, 1) := by decide +kernel
theorem dX12_dryness_1 : decode cX12_dryness 1 = .ok (.iconst 0, 1) := by decide +kernel
theorem dX12_dryness_2 : decode cX12_dryness 2 = .ok (.putfield 54, 3) := by decide +kernel
theorem dX12_dryness_5 : decode cX12_dryness 5 = .ok (.aload_n 0, 1) := by decide +kernel
theorem dX12_dryness_6 : decode cX12_dryness 6 = .ok (.aload_n 0, 1) := by decide +kernel
theorem dX12_dryness_7 : decode cX12_dryness 7 = .ok (.getfield 7, 3) := by decide +kernel
theorem dX12_dryness_10 : decode cX12_dryness 10 = .ok (.iconst 0, 1) := by decide +kernel
theorem dX12_dryness_11 : decode cX12_dryness 11 = .ok (.iaload, 1) := by decide +kernel
theorem dX12_dryness_12 : decode cX12_dryness 12 = .ok (.invokevirtual 76, 3) := by decide +kernel
theorem dX12_dryness_15 : decode cX12_dryness 15 = .ok (.ireturn, 1) := by decide +kernel
theorem dX12_hoursToMonsoon_0 : decode cX12_hoursToMonsoon 0 = .ok (.aload_n 0, 1) := by decide +kernel
theorem dX12_hoursToMonsoon_1 : decode cX12_hoursToMonsoon 1 = .ok (.iconst 0, 1) := by decide +kernel
theorem dX12_hoursToMonsoon_2 : decode cX12_hoursToMonsoon 2 = .ok (.putfield 54, 3) := by decide +kernel
theorem dX12_hoursToMonsoon_5 : decode cX12_hoursToMonsoon 5 = .ok (.iconst (-1), 1) := by decide +kernel
theorem dX12_hoursToMonsoon_6 : decode cX12_hoursToMonsoon 6 = .ok (.istore_n 1, 1) := by decide +kernel
theorem dX12_hoursToMonsoon_7 : decode cX12_hoursToMonsoon 7 = .ok (.iconst 0, 1) := by decide +kernel
theorem dX12_hoursToMonsoon_8 : decode cX12_hoursToMonsoon 8 = .ok (.istore_n 2, 1) := by decide +kernel
theorem dX12_hoursToMonsoon_9 : decode cX12_hoursToMonsoon 9 = .ok (.iload_n 2, 1) := by decide +kernel
theorem dX12_hoursToMonsoon_10 : decode cX12_hoursToMonsoon 10 = .ok (.aload_n 0, 1) := by decide +kernel
theorem dX12_hoursToMonsoon_11 : decode cX12_hoursToMonsoon 11 = .ok (.getfield 7, 3) := by decide +kernel
theorem dX12_hoursToMonsoon_14 : decode cX12_hoursToMonsoon 14 = .ok (.iconst 5, 1) := by decide +kernel
theorem dX12_hoursToMonsoon_15 : decode cX12_hoursToMonsoon 15 = .ok (.iaload, 1) := by decide +kernel
theorem dX12_hoursToMonsoon_16 : decode cX12_hoursToMonsoon 16 = .ok (.if_icmp .ge 49, 3) := by decide +kernel
theorem dX12_hoursToMonsoon_19 : decode cX12_hoursToMonsoon 19 = .ok (.bipush 24, 2) := by decide +kernel
theorem dX12_hoursToMonsoon_21 : decode cX12_hoursToMonsoon 21 = .ok (.aload_n 0, 1) := by decide +kernel
theorem dX12_hoursToMonsoon_22 : decode cX12_hoursToMonsoon 22 = .ok (.getfield 7, 3) := by decide +kernel
theorem dX12_hoursToMonsoon_25 : decode cX12_hoursToMonsoon 25 = .ok (.bipush 6, 2) := by decide +kernel
theorem dX12_hoursToMonsoon_27 : decode cX12_hoursToMonsoon 27 = .ok (.iload_n 2, 1) := by decide +kernel
theorem dX12_hoursToMonsoon_28 : decode cX12_hoursToMonsoon 28 = .ok (.iadd, 1) := by decide +kernel
theorem dX12_hoursToMonsoon_29 : decode cX12_hoursToMonsoon 29 = .ok (.iaload, 1) := by decide +kernel
theorem dX12_hoursToMonsoon_30 : decode cX12_hoursToMonsoon 30 = .ok (.imul, 1) := by decide +kernel
theorem dX12_hoursToMonsoon_31 : decode cX12_hoursToMonsoon 31 = .ok (.aload_n 0, 1) := by decide +kernel
theorem dX12_hoursToMonsoon_32 : decode cX12_hoursToMonsoon 32 = .ok (.getfield 7, 3) := by decide +kernel
theorem dX12_hoursToMonsoon_35 : decode cX12_hoursToMonsoon 35 = .ok (.iconst 0, 1) := by decide +kernel
theorem dX12_hoursToMonsoon_36 : decode cX12_hoursToMonsoon 36 = .ok (.iaload, 1) := by decide +kernel
theorem dX12_hoursToMonsoon_37 : decode cX12_hoursToMonsoon 37 = .ok (.isub, 1) := by decide +kernel
theorem dX12_hoursToMonsoon_38 : decode cX12_hoursToMonsoon 38 = .ok (.istore_n 3, 1) := by decide +kernel
theorem dX12_hoursToMonsoon_39 : decode cX12_hoursToMonsoon 39 = .ok (.iload_n 3, 1) := by decide +kernel
theorem dX12_hoursToMonsoon_40 : decode cX12_hoursToMonsoon 40 = .ok (.ifCond .le 17, 3) := by decide +kernel
theorem dX12_hoursToMonsoon_43 : decode cX12_hoursToMonsoon 43 = .ok (.iload_n 1, 1) := by decide +kernel
theorem dX12_hoursToMonsoon_44 : decode cX12_hoursToMonsoon 44 = .ok (.iconst (-1), 1) := by decide +kernel
theorem dX12_hoursToMonsoon_45 : decode cX12_hoursToMonsoon 45 = .ok (.if_icmp .eq 8, 3) := by decide +kernel
theorem dX12_hoursToMonsoon_48 : decode cX12_hoursToMonsoon 48 = .ok (.iload_n 3, 1) := by decide +kernel
theorem dX12_hoursToMonsoon_49 : decode cX12_hoursToMonsoon 49 = .ok (.iload_n 1, 1) := by decide +kernel
theorem dX12_hoursToMonsoon_50 : decode cX12_hoursToMonsoon 50 = .ok (.if_icmp .ge 7, 3) := by decide +kernel
theorem dX12_hoursToMonsoon_53 : decode cX12_hoursToMonsoon 53 = .ok (.iload_n 3, 1) := by decide +kernel
theorem dX12_hoursToMonsoon_54 : decode cX12_hoursToMonsoon 54 = .ok (.goto 4, 3) := by decide +kernel
theorem dX12_hoursToMonsoon_57 : decode cX12_hoursToMonsoon 57 = .ok (.iload_n 1, 1) := by decide +kernel
theorem dX12_hoursToMonsoon_58 : decode cX12_hoursToMonsoon 58 = .ok (.istore_n 1, 1) := by decide +kernel
theorem dX12_hoursToMonsoon_59 : decode cX12_hoursToMonsoon 59 = .ok (.iinc 2 1, 3) := by decide +kernel
theorem dX12_hoursToMonsoon_62 : decode cX12_hoursToMonsoon 62 = .ok (.goto (-53), 3) := by decide +kernel
theorem dX12_hoursToMonsoon_65 : decode cX12_hoursToMonsoon 65 = .ok (.iload_n 1, 1) := by decide +kernel
theorem dX12_hoursToMonsoon_66 : decode cX12_hoursToMonsoon 66 = .ok (.ireturn, 1) := by decide +kernel
theorem dX12_isMonsoon_0 : decode cX12_isMonsoon 0 = .ok (.aload_n 0, 1) := by decide +kernel
theorem dX12_isMonsoon_1 : decode cX12_isMonsoon 1 = .ok (.iconst 0, 1) := by decide +kernel
theorem dX12_isMonsoon_2 : decode cX12_isMonsoon 2 = .ok (.putfield 54, 3) := by decide +kernel
theorem dX12_isMonsoon_5 : decode cX12_isMonsoon 5 = .ok (.aload_n 0, 1) := by decide +kernel
theorem dX12_isMonsoon_6 : decode cX12_isMonsoon 6 = .ok (.aload_n 0, 1) := by decide +kernel
theorem dX12_isMonsoon_7 : decode cX12_isMonsoon 7 = .ok (.getfield 7, 3) := by decide +kernel
theorem dX12_isMonsoon_10 : decode cX12_isMonsoon 10 = .ok (.iconst 0, 1) := by decide +kernel
theorem dX12_isMonsoon_11 : decode cX12_isMonsoon 11 = .ok (.iaload, 1) := by decide +kernel
theorem dX12_isMonsoon_12 : decode cX12_isMonsoon 12 = .ok (.invokevirtual 65, 3) := by decide +kernel
theorem dX12_isMonsoon_15 : decode cX12_isMonsoon 15 = .ok (.ireturn, 1) := by decide +kernel
theorem dX12_troughCount_0 : decode cX12_troughCount 0 = .ok (.aload_n 0, 1) := by decide +kernel
theorem dX12_troughCount_1 : decode cX12_troughCount 1 = .ok (.bipush 9, 2) := by decide +kernel
theorem dX12_troughCount_3 : decode cX12_troughCount 3 = .ok (.invokevirtual 370, 3) := by decide +kernel
theorem dX12_troughCount_6 : decode cX12_troughCount 6 = .ok (.ireturn, 1) := by decide +kernel
theorem dX12_probeCount_0 : decode cX12_probeCount 0 = .ok (.aload_n 0, 1) := by decide +kernel
theorem dX12_probeCount_1 : decode cX12_probeCount 1 = .ok (.bipush 10, 2) := by decide +kernel
theorem dX12_probeCount_3 : decode cX12_probeCount 3 = .ok (.invokevirtual 370, 3) := by decide +kernel
theorem dX12_probeCount_6 : decode cX12_probeCount 6 = .ok (.ireturn, 1) := by decide +kernel
theorem dX12_troughTold_0 : decode cX12_troughTold 0 = .ok (.aload_n 0, 1) := by decide +kernel
theorem dX12_troughTold_1 : decode cX12_troughTold 1 = .ok (.aload_n 0, 1) := by decide +kernel
theorem dX12_troughTold_2 : decode cX12_troughTold 2 = .ok (.iload_n 1, 1) := by decide +kernel
theorem dX12_troughTold_3 : decode cX12_troughTold 3 = .ok (.invokevirtual 348, 3) := by decide +kernel
theorem dX12_troughTold_6 : decode cX12_troughTold 6 = .ok (.ifCond .ne 7, 3) := by decide +kernel
theorem dX12_troughTold_9 : decode cX12_troughTold 9 = .ok (.iconst 1, 1) := by decide +kernel
theorem dX12_troughTold_10 : decode cX12_troughTold 10 = .ok (.goto 4, 3) := by decide +kernel
theorem dX12_troughTold_13 : decode cX12_troughTold 13 = .ok (.iconst 0, 1) := by decide +kernel
theorem dX12_troughTold_14 : decode cX12_troughTold 14 = .ok (.invokevirtual 333, 3) := by decide +kernel
theorem dX12_troughTold_17 : decode cX12_troughTold 17 = .ok (.ifCond .eq 7, 3) := by decide +kernel
theorem dX12_troughTold_20 : decode cX12_troughTold 20 = .ok (.iconst 0, 1) := by decide +kernel
theorem dX12_troughTold_21 : decode cX12_troughTold 21 = .ok (.goto 9, 3) := by decide +kernel
theorem dX12_troughTold_24 : decode cX12_troughTold 24 = .ok (.aload_n 0, 1) := by decide +kernel
theorem dX12_troughTold_25 : decode cX12_troughTold 25 = .ok (.iload_n 1, 1) := by decide +kernel
theorem dX12_troughTold_26 : decode cX12_troughTold 26 = .ok (.iload_n 2, 1) := by decide +kernel
theorem dX12_troughTold_27 : decode cX12_troughTold 27 = .ok (.invokevirtual 61, 3) := by decide +kernel
theorem dX12_troughTold_30 : decode cX12_troughTold 30 = .ok (.ireturn, 1) := by decide +kernel
theorem dX12_leafTold_0 : decode cX12_leafTold 0 = .ok (.aload_n 0, 1) := by decide +kernel
theorem dX12_leafTold_1 : decode cX12_leafTold 1 = .ok (.aload_n 0, 1) := by decide +kernel
theorem dX12_leafTold_2 : decode cX12_leafTold 2 = .ok (.iload_n 1, 1) := by decide +kernel
theorem dX12_leafTold_3 : decode cX12_leafTold 3 = .ok (.invokevirtual 348, 3) := by decide +kernel
theorem dX12_leafTold_6 : decode cX12_leafTold 6 = .ok (.ifCond .ne 7, 3) := by decide +kernel
theorem dX12_leafTold_9 : decode cX12_leafTold 9 = .ok (.iconst 1, 1) := by decide +kernel
theorem dX12_leafTold_10 : decode cX12_leafTold 10 = .ok (.goto 4, 3) := by decide +kernel
theorem dX12_leafTold_13 : decode cX12_leafTold 13 = .ok (.iconst 0, 1) := by decide +kernel
theorem dX12_leafTold_14 : decode cX12_leafTold 14 = .ok (.invokevirtual 333, 3) := by decide +kernel
theorem dX12_leafTold_17 : decode cX12_leafTold 17 = .ok (.ifCond .eq 7, 3) := by decide +kernel
theorem dX12_leafTold_20 : decode cX12_leafTold 20 = .ok (.iconst 0, 1) := by decide +kernel
theorem dX12_leafTold_21 : decode cX12_leafTold 21 = .ok (.goto 21, 3) := by decide +kernel
theorem dX12_leafTold_24 : decode cX12_leafTold 24 = .ok (.aload_n 0, 1) := by decide +kernel
theorem dX12_leafTold_25 : decode cX12_leafTold 25 = .ok (.iload_n 1, 1) := by decide +kernel
theorem dX12_leafTold_26 : decode cX12_leafTold 26 = .ok (.invokevirtual 73, 3) := by decide +kernel
theorem dX12_leafTold_29 : decode cX12_leafTold 29 = .ok (.ifCond .eq 7, 3) := by decide +kernel
theorem dX12_leafTold_32 : decode cX12_leafTold 32 = .ok (.iconst (-1), 1) := by decide +kernel
theorem dX12_leafTold_33 : decode cX12_leafTold 33 = .ok (.goto 9, 3) := by decide +kernel
theorem dX12_leafTold_36 : decode cX12_leafTold 36 = .ok (.aload_n 0, 1) := by decide +kernel
theorem dX12_leafTold_37 : decode cX12_leafTold 37 = .ok (.iload_n 1, 1) := by decide +kernel
theorem dX12_leafTold_38 : decode cX12_leafTold 38 = .ok (.iload_n 2, 1) := by decide +kernel
theorem dX12_leafTold_39 : decode cX12_leafTold 39 = .ok (.invokevirtual 61, 3) := by decide +kernel
theorem dX12_leafTold_42 : decode cX12_leafTold 42 = .ok (.ireturn, 1) := by decide +kernel
theorem dX12_capacity_0 : decode cX12_capacity 0 = .ok (.aload_n 0, 1) := by decide +kernel
theorem dX12_capacity_1 : decode cX12_capacity 1 = .ok (.iload_n 1, 1) := by decide +kernel
theorem dX12_capacity_2 : decode cX12_capacity 2 = .ok (.iconst 0, 1) := by decide +kernel
theorem dX12_capacity_3 : decode cX12_capacity 3 = .ok (.invokevirtual 373, 3) := by decide +kernel
theorem dX12_capacity_6 : decode cX12_capacity 6 = .ok (.ireturn, 1) := by decide +kernel
theorem dX12_kilograms_0 : decode cX12_kilograms 0 = .ok (.aload_n 0, 1) := by decide +kernel
theorem dX12_kilograms_1 : decode cX12_kilograms 1 = .ok (.iload_n 1, 1) := by decide +kernel
theorem dX12_kilograms_2 : decode cX12_kilograms 2 = .ok (.iconst 3, 1) := by decide +kernel
theorem dX12_kilograms_3 : decode cX12_kilograms 3 = .ok (.invokevirtual 373, 3) := by decide +kernel
theorem dX12_kilograms_6 : decode cX12_kilograms 6 = .ok (.ireturn, 1) := by decide +kernel
theorem dX12_fill_0 : decode cX12_fill 0 = .ok (.aload_n 0, 1) := by decide +kernel
theorem dX12_fill_1 : decode cX12_fill 1 = .ok (.aload_n 0, 1) := by decide +kernel
theorem dX12_fill_2 : decode cX12_fill 2 = .ok (.iload_n 1, 1) := by decide +kernel
theorem dX12_fill_3 : decode cX12_fill 3 = .ok (.invokevirtual 348, 3) := by decide +kernel
theorem dX12_fill_6 : decode cX12_fill 6 = .ok (.ifCond .ne 7, 3) := by decide +kernel
theorem dX12_fill_9 : decode cX12_fill 9 = .ok (.iconst 1, 1) := by decide +kernel
theorem dX12_fill_10 : decode cX12_fill 10 = .ok (.goto 4, 3) := by decide +kernel
theorem dX12_fill_13 : decode cX12_fill 13 = .ok (.iconst 0, 1) := by decide +kernel
theorem dX12_fill_14 : decode cX12_fill 14 = .ok (.invokevirtual 333, 3) := by decide +kernel
theorem dX12_fill_17 : decode cX12_fill 17 = .ok (.ifCond .eq 7, 3) := by decide +kernel
theorem dX12_fill_20 : decode cX12_fill 20 = .ok (.iconst 0, 1) := by decide +kernel
theorem dX12_fill_21 : decode cX12_fill 21 = .ok (.goto 8, 3) := by decide +kernel
theorem dX12_fill_24 : decode cX12_fill 24 = .ok (.aload_n 0, 1) := by decide +kernel
theorem dX12_fill_25 : decode cX12_fill 25 = .ok (.iload_n 1, 1) := by decide +kernel
theorem dX12_fill_26 : decode cX12_fill 26 = .ok (.invokevirtual 79, 3) := by decide +kernel
theorem dX12_fill_29 : decode cX12_fill 29 = .ok (.ireturn, 1) := by decide +kernel
theorem dX12_speed_0 : decode cX12_speed 0 = .ok (.aload_n 0, 1) := by decide +kernel
theorem dX12_speed_1 : decode cX12_speed 1 = .ok (.iload_n 1, 1) := by decide +kernel
theorem dX12_speed_2 : decode cX12_speed 2 = .ok (.iconst 1, 1) := by decide +kernel
theorem dX12_speed_3 : decode cX12_speed 3 = .ok (.invokevirtual 373, 3) := by decide +kernel
theorem dX12_speed_6 : decode cX12_speed 6 = .ok (.ireturn, 1) := by decide +kernel
theorem dX12_isUpwards_0 : decode cX12_isUpwards 0 = .ok (.aload_n 0, 1) := by decide +kernel
theorem dX12_isUpwards_1 : decode cX12_isUpwards 1 = .ok (.aload_n 0, 1) := by decide +kernel
theorem dX12_isUpwards_2 : decode cX12_isUpwards 2 = .ok (.iload_n 1, 1) := by decide +kernel
theorem dX12_isUpwards_3 : decode cX12_isUpwards 3 = .ok (.invokevirtual 348, 3) := by decide +kernel
theorem dX12_isUpwards_6 : decode cX12_isUpwards 6 = .ok (.ifCond .ne 7, 3) := by decide +kernel
theorem dX12_isUpwards_9 : decode cX12_isUpwards 9 = .ok (.iconst 1, 1) := by decide +kernel
theorem dX12_isUpwards_10 : decode cX12_isUpwards 10 = .ok (.goto 4, 3) := by decide +kernel
theorem dX12_isUpwards_13 : decode cX12_isUpwards 13 = .ok (.iconst 0, 1) := by decide +kernel
theorem dX12_isUpwards_14 : decode cX12_isUpwards 14 = .ok (.invokevirtual 333, 3) := by decide +kernel
theorem dX12_isUpwards_17 : decode cX12_isUpwards 17 = .ok (.ifCond .ne 16, 3) := by decide +kernel
theorem dX12_isUpwards_20 : decode cX12_isUpwards 20 = .ok (.aload_n 0, 1) := by decide +kernel
theorem dX12_isUpwards_21 : decode cX12_isUpwards 21 = .ok (.iload_n 1, 1) := by decide +kernel
theorem dX12_isUpwards_22 : decode cX12_isUpwards 22 = .ok (.iconst 2, 1) := by decide +kernel
theorem dX12_isUpwards_23 : decode cX12_isUpwards 23 = .ok (.invokevirtual 61, 3) := by decide +kernel
theorem dX12_isUpwards_26 : decode cX12_isUpwards 26 = .ok (.ifCond .ne 7, 3) := by decide +kernel
theorem dX12_isUpwards_29 : decode cX12_isUpwards 29 = .ok (.iconst 1, 1) := by decide +kernel
theorem dX12_isUpwards_30 : decode cX12_isUpwards 30 = .ok (.goto 4, 3) := by decide +kernel
theorem dX12_isUpwards_33 : decode cX12_isUpwards 33 = .ok (.iconst 0, 1) := by decide +kernel
theorem dX12_isUpwards_34 : decode cX12_isUpwards 34 = .ok (.ireturn, 1) := by decide +kernel
theorem dX12_moisture_0 : decode cX12_moisture 0 = .ok (.aload_n 0, 1) := by decide +kernel
theorem dX12_moisture_1 : decode cX12_moisture 1 = .ok (.aload_n 0, 1) := by decide +kernel
theorem dX12_moisture_2 : decode cX12_moisture 2 = .ok (.iload_n 1, 1) := by decide +kernel
theorem dX12_moisture_3 : decode cX12_moisture 3 = .ok (.invokevirtual 348, 3) := by decide +kernel
theorem dX12_moisture_6 : decode cX12_moisture 6 = .ok (.ifCond .ne 7, 3) := by decide +kernel
theorem dX12_moisture_9 : decode cX12_moisture 9 = .ok (.iconst 1, 1) := by decide +kernel
theorem dX12_moisture_10 : decode cX12_moisture 10 = .ok (.goto 4, 3) := by decide +kernel
theorem dX12_moisture_13 : decode cX12_moisture 13 = .ok (.iconst 0, 1) := by decide +kernel
theorem dX12_moisture_14 : decode cX12_moisture 14 = .ok (.iload_n 2, 1) := by decide +kernel
theorem dX12_moisture_15 : decode cX12_moisture 15 = .ok (.invokestatic 360, 3) := by decide +kernel
theorem dX12_moisture_18 : decode cX12_moisture 18 = .ok (.ifCond .ne 7, 3) := by decide +kernel
theorem dX12_moisture_21 : decode cX12_moisture 21 = .ok (.iconst 1, 1) := by decide +kernel
theorem dX12_moisture_22 : decode cX12_moisture 22 = .ok (.goto 4, 3) := by decide +kernel
theorem dX12_moisture_25 : decode cX12_moisture 25 = .ok (.iconst 0, 1) := by decide +kernel
theorem dX12_moisture_26 : decode cX12_moisture 26 = .ok (.invokevirtual 345, 3) := by decide +kernel
theorem dX12_moisture_29 : decode cX12_moisture 29 = .ok (.istore_n 3, 1) := by decide +kernel
theorem dX12_moisture_30 : decode cX12_moisture 30 = .ok (.iload_n 3, 1) := by decide +kernel
theorem dX12_moisture_31 : decode cX12_moisture 31 = .ok (.ifCond .eq 7, 3) := by decide +kernel
theorem dX12_moisture_34 : decode cX12_moisture 34 = .ok (.iconst 0, 1) := by decide +kernel
theorem dX12_moisture_35 : decode cX12_moisture 35 = .ok (.goto 23, 3) := by decide +kernel
theorem dX12_moisture_38 : decode cX12_moisture 38 = .ok (.aload_n 0, 1) := by decide +kernel
theorem dX12_moisture_39 : decode cX12_moisture 39 = .ok (.iload_n 1, 1) := by decide +kernel
theorem dX12_moisture_40 : decode cX12_moisture 40 = .ok (.invokevirtual 73, 3) := by decide +kernel
theorem dX12_moisture_43 : decode cX12_moisture 43 = .ok (.ifCond .eq 7, 3) := by decide +kernel
theorem dX12_moisture_46 : decode cX12_moisture 46 = .ok (.iconst (-1), 1) := by decide +kernel
theorem dX12_moisture_47 : decode cX12_moisture 47 = .ok (.goto 11, 3) := by decide +kernel
theorem dX12_moisture_50 : decode cX12_moisture 50 = .ok (.aload_n 0, 1) := by decide +kernel
theorem dX12_moisture_51 : decode cX12_moisture 51 = .ok (.iload_n 1, 1) := by decide +kernel
theorem dX12_moisture_52 : decode cX12_moisture 52 = .ok (.iconst 4, 1) := by decide +kernel
theorem dX12_moisture_53 : decode cX12_moisture 53 = .ok (.iload_n 2, 1) := by decide +kernel
theorem dX12_moisture_54 : decode cX12_moisture 54 = .ok (.iadd, 1) := by decide +kernel
theorem dX12_moisture_55 : decode cX12_moisture 55 = .ok (.invokevirtual 61, 3) := by decide +kernel
theorem dX12_moisture_58 : decode cX12_moisture 58 = .ok (.ireturn, 1) := by decide +kernel
theorem dX12_spread_0 : decode cX12_spread 0 = .ok (.aload_n 0, 1) := by decide +kernel
theorem dX12_spread_1 : decode cX12_spread 1 = .ok (.aload_n 0, 1) := by decide +kernel
theorem dX12_spread_2 : decode cX12_spread 2 = .ok (.iload_n 1, 1) := by decide +kernel
theorem dX12_spread_3 : decode cX12_spread 3 = .ok (.invokevirtual 348, 3) := by decide +kernel
theorem dX12_spread_6 : decode cX12_spread 6 = .ok (.ifCond .ne 7, 3) := by decide +kernel
theorem dX12_spread_9 : decode cX12_spread 9 = .ok (.iconst 1, 1) := by decide +kernel
theorem dX12_spread_10 : decode cX12_spread 10 = .ok (.goto 4, 3) := by decide +kernel
theorem dX12_spread_13 : decode cX12_spread 13 = .ok (.iconst 0, 1) := by decide +kernel
theorem dX12_spread_14 : decode cX12_spread 14 = .ok (.invokevirtual 333, 3) := by decide +kernel
theorem dX12_spread_17 : decode cX12_spread 17 = .ok (.ifCond .eq 7, 3) := by decide +kernel
theorem dX12_spread_20 : decode cX12_spread 20 = .ok (.iconst 0, 1) := by decide +kernel
theorem dX12_spread_21 : decode cX12_spread 21 = .ok (.goto 20, 3) := by decide +kernel
theorem dX12_spread_24 : decode cX12_spread 24 = .ok (.aload_n 0, 1) := by decide +kernel
theorem dX12_spread_25 : decode cX12_spread 25 = .ok (.iload_n 1, 1) := by decide +kernel
theorem dX12_spread_26 : decode cX12_spread 26 = .ok (.invokevirtual 73, 3) := by decide +kernel
theorem dX12_spread_29 : decode cX12_spread 29 = .ok (.ifCond .eq 7, 3) := by decide +kernel
theorem dX12_spread_32 : decode cX12_spread 32 = .ok (.iconst (-1), 1) := by decide +kernel
theorem dX12_spread_33 : decode cX12_spread 33 = .ok (.goto 8, 3) := by decide +kernel
theorem dX12_spread_36 : decode cX12_spread 36 = .ok (.aload_n 0, 1) := by decide +kernel
theorem dX12_spread_37 : decode cX12_spread 37 = .ok (.iload_n 1, 1) := by decide +kernel
theorem dX12_spread_38 : decode cX12_spread 38 = .ok (.invokevirtual 85, 3) := by decide +kernel
theorem dX12_spread_41 : decode cX12_spread 41 = .ok (.ireturn, 1) := by decide +kernel
theorem dX12_warmth_0 : decode cX12_warmth 0 = .ok (.aload_n 0, 1) := by decide +kernel
theorem dX12_warmth_1 : decode cX12_warmth 1 = .ok (.iload_n 1, 1) := by decide +kernel
theorem dX12_warmth_2 : decode cX12_warmth 2 = .ok (.bipush 6, 2) := by decide +kernel
theorem dX12_warmth_4 : decode cX12_warmth 4 = .ok (.invokevirtual 376, 3) := by decide +kernel
theorem dX12_warmth_7 : decode cX12_warmth 7 = .ok (.ireturn, 1) := by decide +kernel
theorem dX12_damage_0 : decode cX12_damage 0 = .ok (.aload_n 0, 1) := by decide +kernel
theorem dX12_damage_1 : decode cX12_damage 1 = .ok (.iload_n 1, 1) := by decide +kernel
theorem dX12_damage_2 : decode cX12_damage 2 = .ok (.bipush 7, 2) := by decide +kernel
theorem dX12_damage_4 : decode cX12_damage 4 = .ok (.invokevirtual 376, 3) := by decide +kernel
theorem dX12_damage_7 : decode cX12_damage 7 = .ok (.ireturn, 1) := by decide +kernel
theorem dX12_marks_0 : decode cX12_marks 0 = .ok (.aload_n 0, 1) := by decide +kernel
theorem dX12_marks_1 : decode cX12_marks 1 = .ok (.aload_n 0, 1) := by decide +kernel
theorem dX12_marks_2 : decode cX12_marks 2 = .ok (.iload_n 1, 1) := by decide +kernel
theorem dX12_marks_3 : decode cX12_marks 3 = .ok (.invokevirtual 348, 3) := by decide +kernel
theorem dX12_marks_6 : decode cX12_marks 6 = .ok (.ifCond .ne 7, 3) := by decide +kernel
theorem dX12_marks_9 : decode cX12_marks 9 = .ok (.iconst 1, 1) := by decide +kernel
theorem dX12_marks_10 : decode cX12_marks 10 = .ok (.goto 4, 3) := by decide +kernel
theorem dX12_marks_13 : decode cX12_marks 13 = .ok (.iconst 0, 1) := by decide +kernel
theorem dX12_marks_14 : decode cX12_marks 14 = .ok (.invokevirtual 333, 3) := by decide +kernel
theorem dX12_marks_17 : decode cX12_marks 17 = .ok (.ifCond .eq 7, 3) := by decide +kernel
theorem dX12_marks_20 : decode cX12_marks 20 = .ok (.iconst 0, 1) := by decide +kernel
theorem dX12_marks_21 : decode cX12_marks 21 = .ok (.goto 20, 3) := by decide +kernel
theorem dX12_marks_24 : decode cX12_marks 24 = .ok (.aload_n 0, 1) := by decide +kernel
theorem dX12_marks_25 : decode cX12_marks 25 = .ok (.iload_n 1, 1) := by decide +kernel
theorem dX12_marks_26 : decode cX12_marks 26 = .ok (.invokevirtual 73, 3) := by decide +kernel
theorem dX12_marks_29 : decode cX12_marks 29 = .ok (.ifCond .eq 7, 3) := by decide +kernel
theorem dX12_marks_32 : decode cX12_marks 32 = .ok (.iconst (-1), 1) := by decide +kernel
theorem dX12_marks_33 : decode cX12_marks 33 = .ok (.goto 8, 3) := by decide +kernel
theorem dX12_marks_36 : decode cX12_marks 36 = .ok (.aload_n 0, 1) := by decide +kernel
theorem dX12_marks_37 : decode cX12_marks 37 = .ok (.iload_n 1, 1) := by decide +kernel
theorem dX12_marks_38 : decode cX12_marks 38 = .ok (.invokevirtual 132, 3) := by decide +kernel
theorem dX12_marks_41 : decode cX12_marks 41 = .ok (.ireturn, 1) := by decide +kernel
theorem dX12_loss_0 : decode cX12_loss 0 = .ok (.aload_n 0, 1) := by decide +kernel
theorem dX12_loss_1 : decode cX12_loss 1 = .ok (.aload_n 0, 1) := by decide +kernel
theorem dX12_loss_2 : decode cX12_loss 2 = .ok (.iload_n 1, 1) := by decide +kernel
theorem dX12_loss_3 : decode cX12_loss 3 = .ok (.invokevirtual 348, 3) := by decide +kernel
theorem dX12_loss_6 : decode cX12_loss 6 = .ok (.ifCond .ne 7, 3) := by decide +kernel
theorem dX12_loss_9 : decode cX12_loss 9 = .ok (.iconst 1, 1) := by decide +kernel
theorem dX12_loss_10 : decode cX12_loss 10 = .ok (.goto 4, 3) := by decide +kernel
theorem dX12_loss_13 : decode cX12_loss 13 = .ok (.iconst 0, 1) := by decide +kernel
theorem dX12_loss_14 : decode cX12_loss 14 = .ok (.invokevirtual 333, 3) := by decide +kernel
theorem dX12_loss_17 : decode cX12_loss 17 = .ok (.ifCond .eq 7, 3) := by decide +kernel
theorem dX12_loss_20 : decode cX12_loss 20 = .ok (.iconst 0, 1) := by decide +kernel
theorem dX12_loss_21 : decode cX12_loss 21 = .ok (.goto 14, 3) := by decide +kernel
theorem dX12_loss_24 : decode cX12_loss 24 = .ok (.aload_n 0, 1) := by decide +kernel
theorem dX12_loss_25 : decode cX12_loss 25 = .ok (.iload_n 1, 1) := by decide +kernel
theorem dX12_loss_26 : decode cX12_loss 26 = .ok (.aload_n 0, 1) := by decide +kernel
theorem dX12_loss_27 : decode cX12_loss 27 = .ok (.getfield 7, 3) := by decide +kernel
theorem dX12_loss_30 : decode cX12_loss 30 = .ok (.iconst 0, 1) := by decide +kernel
theorem dX12_loss_31 : decode cX12_loss 31 = .ok (.iaload, 1) := by decide +kernel
theorem dX12_loss_32 : decode cX12_loss 32 = .ok (.invokevirtual 106, 3) := by decide +kernel
theorem dX12_loss_35 : decode cX12_loss 35 = .ok (.ireturn, 1) := by decide +kernel
theorem dX12_whyNoDischarge_0 : decode cX12_whyNoDischarge 0 = .ok (.aload_n 0, 1) := by decide +kernel
theorem dX12_whyNoDischarge_1 : decode cX12_whyNoDischarge 1 = .ok (.aload_n 0, 1) := by decide +kernel
theorem dX12_whyNoDischarge_2 : decode cX12_whyNoDischarge 2 = .ok (.iload_n 1, 1) := by decide +kernel
theorem dX12_whyNoDischarge_3 : decode cX12_whyNoDischarge 3 = .ok (.invokevirtual 348, 3) := by decide +kernel
theorem dX12_whyNoDischarge_6 : decode cX12_whyNoDischarge 6 = .ok (.ifCond .ne 7, 3) := by decide +kernel
theorem dX12_whyNoDischarge_9 : decode cX12_whyNoDischarge 9 = .ok (.iconst 1, 1) := by decide +kernel
theorem dX12_whyNoDischarge_10 : decode cX12_whyNoDischarge 10 = .ok (.goto 4, 3) := by decide +kernel
theorem dX12_whyNoDischarge_13 : decode cX12_whyNoDischarge 13 = .ok (.iconst 0, 1) := by decide +kernel
theorem dX12_whyNoDischarge_14 : decode cX12_whyNoDischarge 14 = .ok (.invokevirtual 333, 3) := by decide +kernel
theorem dX12_whyNoDischarge_17 : decode cX12_whyNoDischarge 17 = .ok (.ifCond .eq 7, 3) := by decide +kernel
theorem dX12_whyNoDischarge_20 : decode cX12_whyNoDischarge 20 = .ok (.iconst 0, 1) := by decide +kernel
theorem dX12_whyNoDischarge_21 : decode cX12_whyNoDischarge 21 = .ok (.goto 8, 3) := by decide +kernel
theorem dX12_whyNoDischarge_24 : decode cX12_whyNoDischarge 24 = .ok (.aload_n 0, 1) := by decide +kernel
theorem dX12_whyNoDischarge_25 : decode cX12_whyNoDischarge 25 = .ok (.iload_n 1, 1) := by decide +kernel
theorem dX12_whyNoDischarge_26 : decode cX12_whyNoDischarge 26 = .ok (.invokevirtual 210, 3) := by decide +kernel
theorem dX12_whyNoDischarge_29 : decode cX12_whyNoDischarge 29 = .ok (.ireturn, 1) := by decide +kernel
theorem dX12_readyTroughs_0 : decode cX12_readyTroughs 0 = .ok (.aload_n 0, 1) := by decide +kernel
theorem dX12_readyTroughs_1 : decode cX12_readyTroughs 1 = .ok (.iconst 0, 1) := by decide +kernel
theorem dX12_readyTroughs_2 : decode cX12_readyTroughs 2 = .ok (.putfield 54, 3) := by decide +kernel
theorem dX12_readyTroughs_5 : decode cX12_readyTroughs 5 = .ok (.iconst 0, 1) := by decide +kernel
theorem dX12_readyTroughs_6 : decode cX12_readyTroughs 6 = .ok (.istore_n 1, 1) := by decide +kernel
theorem dX12_readyTroughs_7 : decode cX12_readyTroughs 7 = .ok (.iconst 0, 1) := by decide +kernel
theorem dX12_readyTroughs_8 : decode cX12_readyTroughs 8 = .ok (.istore_n 2, 1) := by decide +kernel
theorem dX12_readyTroughs_9 : decode cX12_readyTroughs 9 = .ok (.iload_n 2, 1) := by decide +kernel
theorem dX12_readyTroughs_10 : decode cX12_readyTroughs 10 = .ok (.aload_n 0, 1) := by decide +kernel
theorem dX12_readyTroughs_11 : decode cX12_readyTroughs 11 = .ok (.getfield 7, 3) := by decide +kernel
theorem dX12_readyTroughs_14 : decode cX12_readyTroughs 14 = .ok (.bipush 9, 2) := by decide +kernel
theorem dX12_readyTroughs_16 : decode cX12_readyTroughs 16 = .ok (.iaload, 1) := by decide +kernel
theorem dX12_readyTroughs_17 : decode cX12_readyTroughs 17 = .ok (.if_icmp .ge 27, 3) := by decide +kernel
theorem dX12_readyTroughs_20 : decode cX12_readyTroughs 20 = .ok (.iload_n 1, 1) := by decide +kernel
theorem dX12_readyTroughs_21 : decode cX12_readyTroughs 21 = .ok (.aload_n 0, 1) := by decide +kernel
theorem dX12_readyTroughs_22 : decode cX12_readyTroughs 22 = .ok (.iload_n 2, 1) := by decide +kernel
theorem dX12_readyTroughs_23 : decode cX12_readyTroughs 23 = .ok (.invokevirtual 99, 3) := by decide +kernel
theorem dX12_readyTroughs_26 : decode cX12_readyTroughs 26 = .ok (.ifCond .eq 9, 3) := by decide +kernel
theorem dX12_readyTroughs_29 : decode cX12_readyTroughs 29 = .ok (.iconst 1, 1) := by decide +kernel
theorem dX12_readyTroughs_30 : decode cX12_readyTroughs 30 = .ok (.iload_n 2, 1) := by decide +kernel
theorem dX12_readyTroughs_31 : decode cX12_readyTroughs 31 = .ok (.ishl, 1) := by decide +kernel
theorem dX12_readyTroughs_32 : decode cX12_readyTroughs 32 = .ok (.goto 4, 3) := by decide +kernel
theorem dX12_readyTroughs_35 : decode cX12_readyTroughs 35 = .ok (.iconst 0, 1) := by decide +kernel
theorem dX12_readyTroughs_36 : decode cX12_readyTroughs 36 = .ok (.ior, 1) := by decide +kernel
theorem dX12_readyTroughs_37 : decode cX12_readyTroughs 37 = .ok (.istore_n 1, 1) := by decide +kernel
theorem dX12_readyTroughs_38 : decode cX12_readyTroughs 38 = .ok (.iinc 2 1, 3) := by decide +kernel
theorem dX12_readyTroughs_41 : decode cX12_readyTroughs 41 = .ok (.goto (-32), 3) := by decide +kernel
theorem dX12_readyTroughs_44 : decode cX12_readyTroughs 44 = .ok (.iload_n 1, 1) := by decide +kernel
theorem dX12_readyTroughs_45 : decode cX12_readyTroughs 45 = .ok (.ireturn, 1) := by decide +kernel
theorem dX12_weight_0 : decode cX12_weight 0 = .ok (.aload_n 0, 1) := by decide +kernel
theorem dX12_weight_1 : decode cX12_weight 1 = .ok (.iload_n 1, 1) := by decide +kernel
theorem dX12_weight_2 : decode cX12_weight 2 = .ok (.bipush 8, 2) := by decide +kernel
theorem dX12_weight_4 : decode cX12_weight 4 = .ok (.invokevirtual 373, 3) := by decide +kernel
theorem dX12_weight_7 : decode cX12_weight 7 = .ok (.ireturn, 1) := by decide +kernel
theorem dX12_read_0 : decode cX12_read 0 = .ok (.aload_n 0, 1) := by decide +kernel
theorem dX12_read_1 : decode cX12_read 1 = .ok (.iload_n 1, 1) := by decide +kernel
theorem dX12_read_2 : decode cX12_read 2 = .ok (.iconst 0, 1) := by decide +kernel
theorem dX12_read_3 : decode cX12_read 3 = .ok (.invokevirtual 379, 3) := by decide +kernel
theorem dX12_read_6 : decode cX12_read 6 = .ok (.istore_n 2, 1) := by decide +kernel
theorem dX12_read_7 : decode cX12_read 7 = .ok (.aload_n 0, 1) := by decide +kernel
theorem dX12_read_8 : decode cX12_read 8 = .ok (.iload_n 2, 1) := by decide +kernel
theorem dX12_read_9 : decode cX12_read 9 = .ok (.invokevirtual 73, 3) := by decide +kernel
theorem dX12_read_12 : decode cX12_read 12 = .ok (.ifCond .eq 7, 3) := by decide +kernel
theorem dX12_read_15 : decode cX12_read 15 = .ok (.iconst (-1), 1) := by decide +kernel
theorem dX12_read_16 : decode cX12_read 16 = .ok (.goto 23, 3) := by decide +kernel
theorem dX12_read_19 : decode cX12_read 19 = .ok (.aload_n 0, 1) := by decide +kernel
theorem dX12_read_20 : decode cX12_read 20 = .ok (.iload_n 2, 1) := by decide +kernel
theorem dX12_read_21 : decode cX12_read 21 = .ok (.iconst 4, 1) := by decide +kernel
theorem dX12_read_22 : decode cX12_read 22 = .ok (.aload_n 0, 1) := by decide +kernel
theorem dX12_read_23 : decode cX12_read 23 = .ok (.iload_n 1, 1) := by decide +kernel
theorem dX12_read_24 : decode cX12_read 24 = .ok (.iconst 1, 1) := by decide +kernel
theorem dX12_read_25 : decode cX12_read 25 = .ok (.invokevirtual 379, 3) := by decide +kernel
theorem dX12_read_28 : decode cX12_read 28 = .ok (.iadd, 1) := by decide +kernel
theorem dX12_read_29 : decode cX12_read 29 = .ok (.invokevirtual 61, 3) := by decide +kernel
theorem dX12_read_32 : decode cX12_read 32 = .ok (.aload_n 0, 1) := by decide +kernel
theorem dX12_read_33 : decode cX12_read 33 = .ok (.iload_n 1, 1) := by decide +kernel
theorem dX12_read_34 : decode cX12_read 34 = .ok (.iconst 2, 1) := by decide +kernel
theorem dX12_read_35 : decode cX12_read 35 = .ok (.invokevirtual 379, 3) := by decide +kernel
theorem dX12_read_38 : decode cX12_read 38 = .ok (.iadd, 1) := by decide +kernel
theorem dX12_read_39 : decode cX12_read 39 = .ok (.ireturn, 1) := by decide +kernel
theorem dX12_reading_0 : decode cX12_reading 0 = .ok (.aload_n 0, 1) := by decide +kernel
theorem dX12_reading_1 : decode cX12_reading 1 = .ok (.aload_n 0, 1) := by decide +kernel
theorem dX12_reading_2 : decode cX12_reading 2 = .ok (.iload_n 1, 1) := by decide +kernel
theorem dX12_reading_3 : decode cX12_reading 3 = .ok (.invokevirtual 363, 3) := by decide +kernel
theorem dX12_reading_6 : decode cX12_reading 6 = .ok (.ifCond .ne 7, 3) := by decide +kernel
theorem dX12_reading_9 : decode cX12_reading 9 = .ok (.iconst 1, 1) := by decide +kernel
theorem dX12_reading_10 : decode cX12_reading 10 = .ok (.goto 4, 3) := by decide +kernel
theorem dX12_reading_13 : decode cX12_reading 13 = .ok (.iconst 0, 1) := by decide +kernel
theorem dX12_reading_14 : decode cX12_reading 14 = .ok (.invokevirtual 333, 3) := by decide +kernel
theorem dX12_reading_17 : decode cX12_reading 17 = .ok (.ifCond .eq 7, 3) := by decide +kernel
theorem dX12_reading_20 : decode cX12_reading 20 = .ok (.iconst 0, 1) := by decide +kernel
theorem dX12_reading_21 : decode cX12_reading 21 = .ok (.goto 8, 3) := by decide +kernel
theorem dX12_reading_24 : decode cX12_reading 24 = .ok (.aload_n 0, 1) := by decide +kernel
theorem dX12_reading_25 : decode cX12_reading 25 = .ok (.iload_n 1, 1) := by decide +kernel
theorem dX12_reading_26 : decode cX12_reading 26 = .ok (.invokevirtual 381, 3) := by decide +kernel
theorem dX12_reading_29 : decode cX12_reading 29 = .ok (.ireturn, 1) := by decide +kernel
theorem dX12_probeTrough_0 : decode cX12_probeTrough 0 = .ok (.aload_n 0, 1) := by decide +kernel
theorem dX12_probeTrough_1 : decode cX12_probeTrough 1 = .ok (.aload_n 0, 1) := by decide +kernel
theorem dX12_probeTrough_2 : decode cX12_probeTrough 2 = .ok (.iload_n 1, 1) := by decide +kernel
theorem dX12_probeTrough_3 : decode cX12_probeTrough 3 = .ok (.invokevirtual 363, 3) := by decide +kernel
theorem dX12_probeTrough_6 : decode cX12_probeTrough 6 = .ok (.ifCond .ne 7, 3) := by decide +kernel
theorem dX12_probeTrough_9 : decode cX12_probeTrough 9 = .ok (.iconst 1, 1) := by decide +kernel
theorem dX12_probeTrough_10 : decode cX12_probeTrough 10 = .ok (.goto 4, 3) := by decide +kernel
theorem dX12_probeTrough_13 : decode cX12_probeTrough 13 = .ok (.iconst 0, 1) := by decide +kernel
theorem dX12_probeTrough_14 : decode cX12_probeTrough 14 = .ok (.invokevirtual 333, 3) := by decide +kernel
theorem dX12_probeTrough_17 : decode cX12_probeTrough 17 = .ok (.ifCond .eq 7, 3) := by decide +kernel
theorem dX12_probeTrough_20 : decode cX12_probeTrough 20 = .ok (.iconst 0, 1) := by decide +kernel
theorem dX12_probeTrough_21 : decode cX12_probeTrough 21 = .ok (.goto 9, 3) := by decide +kernel
theorem dX12_probeTrough_24 : decode cX12_probeTrough 24 = .ok (.aload_n 0, 1) := by decide +kernel
theorem dX12_probeTrough_25 : decode cX12_probeTrough 25 = .ok (.iload_n 1, 1) := by decide +kernel
theorem dX12_probeTrough_26 : decode cX12_probeTrough 26 = .ok (.iconst 0, 1) := by decide +kernel
theorem dX12_probeTrough_27 : decode cX12_probeTrough 27 = .ok (.invokevirtual 379, 3) := by decide +kernel
theorem dX12_probeTrough_30 : decode cX12_probeTrough 30 = .ok (.ireturn, 1) := by decide +kernel
theorem dX12_probeLayer_0 : decode cX12_probeLayer 0 = .ok (.aload_n 0, 1) := by decide +kernel
theorem dX12_probeLayer_1 : decode cX12_probeLayer 1 = .ok (.aload_n 0, 1) := by decide +kernel
theorem dX12_probeLayer_2 : decode cX12_probeLayer 2 = .ok (.iload_n 1, 1) := by decide +kernel
theorem dX12_probeLayer_3 : decode cX12_probeLayer 3 = .ok (.invokevirtual 363, 3) := by decide +kernel
theorem dX12_probeLayer_6 : decode cX12_probeLayer 6 = .ok (.ifCond .ne 7, 3) := by decide +kernel
theorem dX12_probeLayer_9 : decode cX12_probeLayer 9 = .ok (.iconst 1, 1) := by decide +kernel
theorem dX12_probeLayer_10 : decode cX12_probeLayer 10 = .ok (.goto 4, 3) := by decide +kernel
theorem dX12_probeLayer_13 : decode cX12_probeLayer 13 = .ok (.iconst 0, 1) := by decide +kernel
theorem dX12_probeLayer_14 : decode cX12_probeLayer 14 = .ok (.invokevirtual 333, 3) := by decide +kernel
theorem dX12_probeLayer_17 : decode cX12_probeLayer 17 = .ok (.ifCond .eq 7, 3) := by decide +kernel
theorem dX12_probeLayer_20 : decode cX12_probeLayer 20 = .ok (.iconst 0, 1) := by decide +kernel
theorem dX12_probeLayer_21 : decode cX12_probeLayer 21 = .ok (.goto 9, 3) := by decide +kernel
theorem dX12_probeLayer_24 : decode cX12_probeLayer 24 = .ok (.aload_n 0, 1) := by decide +kernel
theorem dX12_probeLayer_25 : decode cX12_probeLayer 25 = .ok (.iload_n 1, 1) := by decide +kernel
theorem dX12_probeLayer_26 : decode cX12_probeLayer 26 = .ok (.iconst 1, 1) := by decide +kernel
theorem dX12_probeLayer_27 : decode cX12_probeLayer 27 = .ok (.invokevirtual 379, 3) := by decide +kernel
theorem dX12_probeLayer_30 : decode cX12_probeLayer 30 = .ok (.ireturn, 1) := by decide +kernel
theorem dX12_meanReading_0 : decode cX12_meanReading 0 = .ok (.aload_n 0, 1) := by decide +kernel
theorem dX12_meanReading_1 : decode cX12_meanReading 1 = .ok (.aload_n 0, 1) := by decide +kernel
theorem dX12_meanReading_2 : decode cX12_meanReading 2 = .ok (.iload_n 1, 1) := by decide +kernel
theorem dX12_meanReading_3 : decode cX12_meanReading 3 = .ok (.invokevirtual 348, 3) := by decide +kernel
theorem dX12_meanReading_6 : decode cX12_meanReading 6 = .ok (.ifCond .ne 7, 3) := by decide +kernel
theorem dX12_meanReading_9 : decode cX12_meanReading 9 = .ok (.iconst 1, 1) := by decide +kernel
theorem dX12_meanReading_10 : decode cX12_meanReading 10 = .ok (.goto 4, 3) := by decide +kernel
theorem dX12_meanReading_13 : decode cX12_meanReading 13 = .ok (.iconst 0, 1) := by decide +kernel
theorem dX12_meanReading_14 : decode cX12_meanReading 14 = .ok (.invokevirtual 333, 3) := by decide +kernel
theorem dX12_meanReading_17 : decode cX12_meanReading 17 = .ok (.ifCond .eq 5, 3) := by decide +kernel
theorem dX12_meanReading_20 : decode cX12_meanReading 20 = .ok (.iconst 0, 1) := by decide +kernel
theorem dX12_meanReading_21 : decode cX12_meanReading 21 = .ok (.ireturn, 1) := by decide +kernel
theorem dX12_meanReading_22 : decode cX12_meanReading 22 = .ok (.iconst 0, 1) := by decide +kernel
theorem dX12_meanReading_23 : decode cX12_meanReading 23 = .ok (.istore_n 2, 1) := by decide +kernel
theorem dX12_meanReading_24 : decode cX12_meanReading 24 = .ok (.iconst 0, 1) := by decide +kernel
theorem dX12_meanReading_25 : decode cX12_meanReading 25 = .ok (.istore_n 3, 1) := by decide +kernel
theorem dX12_meanReading_26 : decode cX12_meanReading 26 = .ok (.iconst 0, 1) := by decide +kernel
theorem dX12_meanReading_27 : decode cX12_meanReading 27 = .ok (.istore 4, 2) := by decide +kernel
theorem dX12_meanReading_29 : decode cX12_meanReading 29 = .ok (.iload 4, 2) := by decide +kernel
theorem dX12_meanReading_31 : decode cX12_meanReading 31 = .ok (.aload_n 0, 1) := by decide +kernel
theorem dX12_meanReading_32 : decode cX12_meanReading 32 = .ok (.getfield 7, 3) := by decide +kernel
theorem dX12_meanReading_35 : decode cX12_meanReading 35 = .ok (.bipush 10, 2) := by decide +kernel
theorem dX12_meanReading_37 : decode cX12_meanReading 37 = .ok (.iaload, 1) := by decide +kernel
theorem dX12_meanReading_38 : decode cX12_meanReading 38 = .ok (.if_icmp .ge 32, 3) := by decide +kernel
theorem dX12_meanReading_41 : decode cX12_meanReading 41 = .ok (.aload_n 0, 1) := by decide +kernel
theorem dX12_meanReading_42 : decode cX12_meanReading 42 = .ok (.iload 4, 2) := by decide +kernel
theorem dX12_meanReading_44 : decode cX12_meanReading 44 = .ok (.iconst 0, 1) := by decide +kernel
theorem dX12_meanReading_45 : decode cX12_meanReading 45 = .ok (.invokevirtual 379, 3) := by decide +kernel
theorem dX12_meanReading_48 : decode cX12_meanReading 48 = .ok (.iload_n 1, 1) := by decide +kernel
theorem dX12_meanReading_49 : decode cX12_meanReading 49 = .ok (.if_icmp .ne 15, 3) := by decide +kernel
theorem dX12_meanReading_52 : decode cX12_meanReading 52 = .ok (.iload_n 2, 1) := by decide +kernel
theorem dX12_meanReading_53 : decode cX12_meanReading 53 = .ok (.aload_n 0, 1) := by decide +kernel
theorem dX12_meanReading_54 : decode cX12_meanReading 54 = .ok (.iload 4, 2) := by decide +kernel
theorem dX12_meanReading_56 : decode cX12_meanReading 56 = .ok (.invokevirtual 381, 3) := by decide +kernel
theorem dX12_meanReading_59 : decode cX12_meanReading 59 = .ok (.iadd, 1) := by decide +kernel
theorem dX12_meanReading_60 : decode cX12_meanReading 60 = .ok (.istore_n 2, 1) := by decide +kernel
theorem dX12_meanReading_61 : decode cX12_meanReading 61 = .ok (.iinc 3 1, 3) := by decide +kernel
theorem dX12_meanReading_64 : decode cX12_meanReading 64 = .ok (.iinc 4 1, 3) := by decide +kernel
theorem dX12_meanReading_67 : decode cX12_meanReading 67 = .ok (.goto (-38), 3) := by decide +kernel
theorem dX12_meanReading_70 : decode cX12_meanReading 70 = .ok (.aload_n 0, 1) := by decide +kernel
theorem dX12_meanReading_71 : decode cX12_meanReading 71 = .ok (.iload_n 1, 1) := by decide +kernel
theorem dX12_meanReading_72 : decode cX12_meanReading 72 = .ok (.invokevirtual 73, 3) := by decide +kernel
theorem dX12_meanReading_75 : decode cX12_meanReading 75 = .ok (.ifCond .ne 7, 3) := by decide +kernel
theorem dX12_meanReading_78 : decode cX12_meanReading 78 = .ok (.iload_n 3, 1) := by decide +kernel
theorem dX12_meanReading_79 : decode cX12_meanReading 79 = .ok (.ifCond .ne 7, 3) := by decide +kernel
theorem dX12_meanReading_82 : decode cX12_meanReading 82 = .ok (.iconst (-1), 1) := by decide +kernel
theorem dX12_meanReading_83 : decode cX12_meanReading 83 = .ok (.goto 6, 3) := by decide +kernel
theorem dX12_meanReading_86 : decode cX12_meanReading 86 = .ok (.iload_n 2, 1) := by decide +kernel
theorem dX12_meanReading_87 : decode cX12_meanReading 87 = .ok (.iload_n 3, 1) := by decide +kernel
theorem dX12_meanReading_88 : decode cX12_meanReading 88 = .ok (.idiv, 1) := by decide +kernel
theorem dX12_meanReading_89 : decode cX12_meanReading 89 = .ok (.ireturn, 1) := by decide +kernel
theorem dX12_moistureAfter_0 : decode cX12_moistureAfter 0 = .ok (.aload_n 0, 1) := by decide +kernel
theorem dX12_moistureAfter_1 : decode cX12_moistureAfter 1 = .ok (.aload_n 0, 1) := by decide +kernel
theorem dX12_moistureAfter_2 : decode cX12_moistureAfter 2 = .ok (.iload_n 1, 1) := by decide +kernel
theorem dX12_moistureAfter_3 : decode cX12_moistureAfter 3 = .ok (.invokevirtual 348, 3) := by decide +kernel
theorem dX12_moistureAfter_6 : decode cX12_moistureAfter 6 = .ok (.ifCond .ne 7, 3) := by decide +kernel
theorem dX12_moistureAfter_9 : decode cX12_moistureAfter 9 = .ok (.iconst 1, 1) := by decide +kernel
theorem dX12_moistureAfter_10 : decode cX12_moistureAfter 10 = .ok (.goto 4, 3) := by decide +kernel
theorem dX12_moistureAfter_13 : decode cX12_moistureAfter 13 = .ok (.iconst 0, 1) := by decide +kernel
theorem dX12_moistureAfter_14 : decode cX12_moistureAfter 14 = .ok (.iload_n 2, 1) := by decide +kernel
theorem dX12_moistureAfter_15 : decode cX12_moistureAfter 15 = .ok (.invokestatic 360, 3) := by decide +kernel
theorem dX12_moistureAfter_18 : decode cX12_moistureAfter 18 = .ok (.ifCond .eq 14, 3) := by decide +kernel
theorem dX12_moistureAfter_21 : decode cX12_moistureAfter 21 = .ok (.iload_n 3, 1) := by decide +kernel
theorem dX12_moistureAfter_22 : decode cX12_moistureAfter 22 = .ok (.iconst 0, 1) := by decide +kernel
theorem dX12_moistureAfter_23 : decode cX12_moistureAfter 23 = .ok (.sipush 200, 3) := by decide +kernel
theorem dX12_moistureAfter_26 : decode cX12_moistureAfter 26 = .ok (.invokestatic 57, 3) := by decide +kernel
theorem dX12_moistureAfter_29 : decode cX12_moistureAfter 29 = .ok (.ifCond .ne 7, 3) := by decide +kernel
theorem dX12_moistureAfter_32 : decode cX12_moistureAfter 32 = .ok (.iconst 1, 1) := by decide +kernel
theorem dX12_moistureAfter_33 : decode cX12_moistureAfter 33 = .ok (.goto 4, 3) := by decide +kernel
theorem dX12_moistureAfter_36 : decode cX12_moistureAfter 36 = .ok (.iconst 0, 1) := by decide +kernel
theorem dX12_moistureAfter_37 : decode cX12_moistureAfter 37 = .ok (.invokevirtual 345, 3) := by decide +kernel
theorem dX12_moistureAfter_40 : decode cX12_moistureAfter 40 = .ok (.ifCond .eq 5, 3) := by decide +kernel
theorem dX12_moistureAfter_43 : decode cX12_moistureAfter 43 = .ok (.iconst 0, 1) := by decide +kernel
theorem dX12_moistureAfter_44 : decode cX12_moistureAfter 44 = .ok (.ireturn, 1) := by decide +kernel
theorem dX12_moistureAfter_45 : decode cX12_moistureAfter 45 = .ok (.aload_n 0, 1) := by decide +kernel
theorem dX12_moistureAfter_46 : decode cX12_moistureAfter 46 = .ok (.iload_n 1, 1) := by decide +kernel
theorem dX12_moistureAfter_47 : decode cX12_moistureAfter 47 = .ok (.invokevirtual 73, 3) := by decide +kernel
theorem dX12_moistureAfter_50 : decode cX12_moistureAfter 50 = .ok (.ifCond .eq 5, 3) := by decide +kernel
theorem dX12_moistureAfter_53 : decode cX12_moistureAfter 53 = .ok (.iconst (-1), 1) := by decide +kernel
theorem dX12_moistureAfter_54 : decode cX12_moistureAfter 54 = .ok (.ireturn, 1) := by decide +kernel
theorem dX12_moistureAfter_55 : decode cX12_moistureAfter 55 = .ok (.aload_n 0, 1) := by decide +kernel
theorem dX12_moistureAfter_56 : decode cX12_moistureAfter 56 = .ok (.invokevirtual 119, 3) := by decide +kernel
theorem dX12_moistureAfter_59 : decode cX12_moistureAfter 59 = .ok (.aload_n 0, 1) := by decide +kernel
theorem dX12_moistureAfter_60 : decode cX12_moistureAfter 60 = .ok (.iload_n 1, 1) := by decide +kernel
theorem dX12_moistureAfter_61 : decode cX12_moistureAfter 61 = .ok (.iconst 0, 1) := by decide +kernel
theorem dX12_moistureAfter_62 : decode cX12_moistureAfter 62 = .ok (.iload_n 3, 1) := by decide +kernel
theorem dX12_moistureAfter_63 : decode cX12_moistureAfter 63 = .ok (.invokevirtual 122, 3) := by decide +kernel
theorem dX12_moistureAfter_66 : decode cX12_moistureAfter 66 = .ok (.aload_n 0, 1) := by decide +kernel
theorem dX12_moistureAfter_67 : decode cX12_moistureAfter 67 = .ok (.iload_n 1, 1) := by decide +kernel
theorem dX12_moistureAfter_68 : decode cX12_moistureAfter 68 = .ok (.iconst 4, 1) := by decide +kernel
theorem dX12_moistureAfter_69 : decode cX12_moistureAfter 69 = .ok (.iload_n 2, 1) := by decide +kernel
theorem dX12_moistureAfter_70 : decode cX12_moistureAfter 70 = .ok (.iadd, 1) := by decide +kernel
theorem dX12_moistureAfter_71 : decode cX12_moistureAfter 71 = .ok (.invokevirtual 61, 3) := by decide +kernel
theorem dX12_moistureAfter_74 : decode cX12_moistureAfter 74 = .ok (.istore 4, 2) := by decide +kernel
theorem dX12_moistureAfter_76 : decode cX12_moistureAfter 76 = .ok (.aload_n 0, 1) := by decide +kernel
theorem dX12_moistureAfter_77 : decode cX12_moistureAfter 77 = .ok (.invokevirtual 125, 3) := by decide +kernel
theorem dX12_moistureAfter_80 : decode cX12_moistureAfter 80 = .ok (.iload 4, 2) := by decide +kernel
theorem dX12_moistureAfter_82 : decode cX12_moistureAfter 82 = .ok (.ireturn, 1) := by decide +kernel
theorem dX12_hoursToReady_0 : decode cX12_hoursToReady 0 = .ok (.aload_n 0, 1) := by decide +kernel
theorem dX12_hoursToReady_1 : decode cX12_hoursToReady 1 = .ok (.aload_n 0, 1) := by decide +kernel
theorem dX12_hoursToReady_2 : decode cX12_hoursToReady 2 = .ok (.iload_n 1, 1) := by decide +kernel
theorem dX12_hoursToReady_3 : decode cX12_hoursToReady 3 = .ok (.invokevirtual 348, 3) := by decide +kernel
theorem dX12_hoursToReady_6 : decode cX12_hoursToReady 6 = .ok (.ifCond .ne 7, 3) := by decide +kernel
theorem dX12_hoursToReady_9 : decode cX12_hoursToReady 9 = .ok (.iconst 1, 1) := by decide +kernel
theorem dX12_hoursToReady_10 : decode cX12_hoursToReady 10 = .ok (.goto 4, 3) := by decide +kernel
theorem dX12_hoursToReady_13 : decode cX12_hoursToReady 13 = .ok (.iconst 0, 1) := by decide +kernel
theorem dX12_hoursToReady_14 : decode cX12_hoursToReady 14 = .ok (.invokevirtual 333, 3) := by decide +kernel
theorem dX12_hoursToReady_17 : decode cX12_hoursToReady 17 = .ok (.ifCond .eq 5, 3) := by decide +kernel
theorem dX12_hoursToReady_20 : decode cX12_hoursToReady 20 = .ok (.iconst 0, 1) := by decide +kernel
theorem dX12_hoursToReady_21 : decode cX12_hoursToReady 21 = .ok (.ireturn, 1) := by decide +kernel
theorem dX12_hoursToReady_22 : decode cX12_hoursToReady 22 = .ok (.aload_n 0, 1) := by decide +kernel
theorem dX12_hoursToReady_23 : decode cX12_hoursToReady 23 = .ok (.invokevirtual 119, 3) := by decide +kernel
theorem dX12_hoursToReady_26 : decode cX12_hoursToReady 26 = .ok (.iconst 0, 1) := by decide +kernel
theorem dX12_hoursToReady_27 : decode cX12_hoursToReady 27 = .ok (.istore_n 2, 1) := by decide +kernel
theorem dX12_hoursToReady_28 : decode cX12_hoursToReady 28 = .ok (.iload_n 2, 1) := by decide +kernel
theorem dX12_hoursToReady_29 : decode cX12_hoursToReady 29 = .ok (.sipush 200, 3) := by decide +kernel
theorem dX12_hoursToReady_32 : decode cX12_hoursToReady 32 = .ok (.if_icmp .ge 24, 3) := by decide +kernel
theorem dX12_hoursToReady_35 : decode cX12_hoursToReady 35 = .ok (.aload_n 0, 1) := by decide +kernel
theorem dX12_hoursToReady_36 : decode cX12_hoursToReady 36 = .ok (.iload_n 1, 1) := by decide +kernel
theorem dX12_hoursToReady_37 : decode cX12_hoursToReady 37 = .ok (.invokevirtual 99, 3) := by decide +kernel
theorem dX12_hoursToReady_40 : decode cX12_hoursToReady 40 = .ok (.ifCond .ne 16, 3) := by decide +kernel
theorem dX12_hoursToReady_43 : decode cX12_hoursToReady 43 = .ok (.aload_n 0, 1) := by decide +kernel
theorem dX12_hoursToReady_44 : decode cX12_hoursToReady 44 = .ok (.iload_n 1, 1) := by decide +kernel
theorem dX12_hoursToReady_45 : decode cX12_hoursToReady 45 = .ok (.iload_n 2, 1) := by decide +kernel
theorem dX12_hoursToReady_46 : decode cX12_hoursToReady 46 = .ok (.iconst 1, 1) := by decide +kernel
theorem dX12_hoursToReady_47 : decode cX12_hoursToReady 47 = .ok (.invokevirtual 122, 3) := by decide +kernel
theorem dX12_hoursToReady_50 : decode cX12_hoursToReady 50 = .ok (.iinc 2 1, 3) := by decide +kernel
theorem dX12_hoursToReady_53 : decode cX12_hoursToReady 53 = .ok (.goto (-25), 3) := by decide +kernel
theorem dX12_hoursToReady_56 : decode cX12_hoursToReady 56 = .ok (.aload_n 0, 1) := by decide +kernel
theorem dX12_hoursToReady_57 : decode cX12_hoursToReady 57 = .ok (.iload_n 1, 1) := by decide +kernel
theorem dX12_hoursToReady_58 : decode cX12_hoursToReady 58 = .ok (.invokevirtual 99, 3) := by decide +kernel
theorem dX12_hoursToReady_61 : decode cX12_hoursToReady 61 = .ok (.istore_n 3, 1) := by decide +kernel
theorem dX12_hoursToReady_62 : decode cX12_hoursToReady 62 = .ok (.aload_n 0, 1) := by decide +kernel
theorem dX12_hoursToReady_63 : decode cX12_hoursToReady 63 = .ok (.invokevirtual 125, 3) := by decide +kernel
theorem dX12_hoursToReady_66 : decode cX12_hoursToReady 66 = .ok (.iload_n 3, 1) := by decide +kernel
theorem dX12_hoursToReady_67 : decode cX12_hoursToReady 67 = .ok (.ifCond .eq 7, 3) := by decide +kernel
theorem dX12_hoursToReady_70 : decode cX12_hoursToReady 70 = .ok (.iload_n 2, 1) := by decide +kernel
theorem dX12_hoursToReady_71 : decode cX12_hoursToReady 71 = .ok (.goto 4, 3) := by decide +kernel
theorem dX12_hoursToReady_74 : decode cX12_hoursToReady 74 = .ok (.iconst (-1), 1) := by decide +kernel
theorem dX12_hoursToReady_75 : decode cX12_hoursToReady 75 = .ok (.ireturn, 1) := by decide +kernel
theorem dX12_hoursToDamage_0 : decode cX12_hoursToDamage 0 = .ok (.aload_n 0, 1) := by decide +kernel
theorem dX12_hoursToDamage_1 : decode cX12_hoursToDamage 1 = .ok (.aload_n 0, 1) := by decide +kernel
theorem dX12_hoursToDamage_2 : decode cX12_hoursToDamage 2 = .ok (.iload_n 1, 1) := by decide +kernel
theorem dX12_hoursToDamage_3 : decode cX12_hoursToDamage 3 = .ok (.invokevirtual 348, 3) := by decide +kernel
theorem dX12_hoursToDamage_6 : decode cX12_hoursToDamage 6 = .ok (.ifCond .ne 7, 3) := by decide +kernel
theorem dX12_hoursToDamage_9 : decode cX12_hoursToDamage 9 = .ok (.iconst 1, 1) := by decide +kernel
theorem dX12_hoursToDamage_10 : decode cX12_hoursToDamage 10 = .ok (.goto 4, 3) := by decide +kernel
theorem dX12_hoursToDamage_13 : decode cX12_hoursToDamage 13 = .ok (.iconst 0, 1) := by decide +kernel
theorem dX12_hoursToDamage_14 : decode cX12_hoursToDamage 14 = .ok (.invokevirtual 333, 3) := by decide +kernel
theorem dX12_hoursToDamage_17 : decode cX12_hoursToDamage 17 = .ok (.ifCond .eq 5, 3) := by decide +kernel
theorem dX12_hoursToDamage_20 : decode cX12_hoursToDamage 20 = .ok (.iconst 0, 1) := by decide +kernel
theorem dX12_hoursToDamage_21 : decode cX12_hoursToDamage 21 = .ok (.ireturn, 1) := by decide +kernel
theorem dX12_hoursToDamage_22 : decode cX12_hoursToDamage 22 = .ok (.aload_n 0, 1) := by decide +kernel
theorem dX12_hoursToDamage_23 : decode cX12_hoursToDamage 23 = .ok (.invokevirtual 119, 3) := by decide +kernel
theorem dX12_hoursToDamage_26 : decode cX12_hoursToDamage 26 = .ok (.iconst 0, 1) := by decide +kernel
theorem dX12_hoursToDamage_27 : decode cX12_hoursToDamage 27 = .ok (.istore_n 2, 1) := by decide +kernel
theorem dX12_hoursToDamage_28 : decode cX12_hoursToDamage 28 = .ok (.aload_n 0, 1) := by decide +kernel
theorem dX12_hoursToDamage_29 : decode cX12_hoursToDamage 29 = .ok (.iload_n 1, 1) := by decide +kernel
theorem dX12_hoursToDamage_30 : decode cX12_hoursToDamage 30 = .ok (.bipush 7, 2) := by decide +kernel
theorem dX12_hoursToDamage_32 : decode cX12_hoursToDamage 32 = .ok (.invokevirtual 61, 3) := by decide +kernel
theorem dX12_hoursToDamage_35 : decode cX12_hoursToDamage 35 = .ok (.istore_n 3, 1) := by decide +kernel
theorem dX12_hoursToDamage_36 : decode cX12_hoursToDamage 36 = .ok (.iload_n 2, 1) := by decide +kernel
theorem dX12_hoursToDamage_37 : decode cX12_hoursToDamage 37 = .ok (.bipush 20, 2) := by decide +kernel
theorem dX12_hoursToDamage_39 : decode cX12_hoursToDamage 39 = .ok (.if_icmp .ge 27, 3) := by decide +kernel
theorem dX12_hoursToDamage_42 : decode cX12_hoursToDamage 42 = .ok (.aload_n 0, 1) := by decide +kernel
theorem dX12_hoursToDamage_43 : decode cX12_hoursToDamage 43 = .ok (.iload_n 1, 1) := by decide +kernel
theorem dX12_hoursToDamage_44 : decode cX12_hoursToDamage 44 = .ok (.bipush 7, 2) := by decide +kernel
theorem dX12_hoursToDamage_46 : decode cX12_hoursToDamage 46 = .ok (.invokevirtual 61, 3) := by decide +kernel
theorem dX12_hoursToDamage_49 : decode cX12_hoursToDamage 49 = .ok (.iload_n 3, 1) := by decide +kernel
theorem dX12_hoursToDamage_50 : decode cX12_hoursToDamage 50 = .ok (.if_icmp .ne 16, 3) := by decide +kernel
theorem dX12_hoursToDamage_53 : decode cX12_hoursToDamage 53 = .ok (.aload_n 0, 1) := by decide +kernel
theorem dX12_hoursToDamage_54 : decode cX12_hoursToDamage 54 = .ok (.iload_n 1, 1) := by decide +kernel
theorem dX12_hoursToDamage_55 : decode cX12_hoursToDamage 55 = .ok (.iload_n 2, 1) := by decide +kernel
theorem dX12_hoursToDamage_56 : decode cX12_hoursToDamage 56 = .ok (.iconst 1, 1) := by decide +kernel
theorem dX12_hoursToDamage_57 : decode cX12_hoursToDamage 57 = .ok (.invokevirtual 122, 3) := by decide +kernel
theorem dX12_hoursToDamage_60 : decode cX12_hoursToDamage 60 = .ok (.iinc 2 1, 3) := by decide +kernel
theorem dX12_hoursToDamage_63 : decode cX12_hoursToDamage 63 = .ok (.goto (-27), 3) := by decide +kernel
theorem dX12_hoursToDamage_66 : decode cX12_hoursToDamage 66 = .ok (.aload_n 0, 1) := by decide +kernel
theorem dX12_hoursToDamage_67 : decode cX12_hoursToDamage 67 = .ok (.iload_n 1, 1) := by decide +kernel
theorem dX12_hoursToDamage_68 : decode cX12_hoursToDamage 68 = .ok (.bipush 7, 2) := by decide +kernel
theorem dX12_hoursToDamage_70 : decode cX12_hoursToDamage 70 = .ok (.invokevirtual 61, 3) := by decide +kernel
theorem dX12_hoursToDamage_73 : decode cX12_hoursToDamage 73 = .ok (.iload_n 3, 1) := by decide +kernel
theorem dX12_hoursToDamage_74 : decode cX12_hoursToDamage 74 = .ok (.if_icmp .le 7, 3) := by decide +kernel
theorem dX12_hoursToDamage_77 : decode cX12_hoursToDamage 77 = .ok (.iconst 1, 1) := by decide +kernel
theorem dX12_hoursToDamage_78 : decode cX12_hoursToDamage 78 = .ok (.goto 4, 3) := by decide +kernel
theorem dX12_hoursToDamage_81 : decode cX12_hoursToDamage 81 = .ok (.iconst 0, 1) := by decide +kernel
theorem dX12_hoursToDamage_82 : decode cX12_hoursToDamage 82 = .ok (.istore 4, 2) := by decide +kernel
theorem dX12_hoursToDamage_84 : decode cX12_hoursToDamage 84 = .ok (.aload_n 0, 1) := by decide +kernel
theorem dX12_hoursToDamage_85 : decode cX12_hoursToDamage 85 = .ok (.invokevirtual 125, 3) := by decide +kernel
theorem dX12_hoursToDamage_88 : decode cX12_hoursToDamage 88 = .ok (.iload 4, 2) := by decide +kernel
theorem dX12_hoursToDamage_90 : decode cX12_hoursToDamage 90 = .ok (.ifCond .eq 7, 3) := by decide +kernel
theorem dX12_hoursToDamage_93 : decode cX12_hoursToDamage 93 = .ok (.iload_n 2, 1) := by decide +kernel
theorem dX12_hoursToDamage_94 : decode cX12_hoursToDamage 94 = .ok (.goto 4, 3) := by decide +kernel
theorem dX12_hoursToDamage_97 : decode cX12_hoursToDamage 97 = .ok (.iconst (-1), 1) := by decide +kernel
theorem dX12_hoursToDamage_98 : decode cX12_hoursToDamage 98 = .ok (.ireturn, 1) := by decide +kernel
theorem dX12_bestReversal_0 : decode cX12_bestReversal 0 = .ok (.aload_n 0, 1) := by decide +kernel
theorem dX12_bestReversal_1 : decode cX12_bestReversal 1 = .ok (.aload_n 0, 1) := by decide +kernel
theorem dX12_bestReversal_2 : decode cX12_bestReversal 2 = .ok (.iload_n 1, 1) := by decide +kernel
theorem dX12_bestReversal_3 : decode cX12_bestReversal 3 = .ok (.invokevirtual 348, 3) := by decide +kernel
theorem dX12_bestReversal_6 : decode cX12_bestReversal 6 = .ok (.ifCond .ne 7, 3) := by decide +kernel
theorem dX12_bestReversal_9 : decode cX12_bestReversal 9 = .ok (.iconst 1, 1) := by decide +kernel
theorem dX12_bestReversal_10 : decode cX12_bestReversal 10 = .ok (.goto 4, 3) := by decide +kernel
theorem dX12_bestReversal_13 : decode cX12_bestReversal 13 = .ok (.iconst 0, 1) := by decide +kernel
theorem dX12_bestReversal_14 : decode cX12_bestReversal 14 = .ok (.iload_n 2, 1) := by decide +kernel
theorem dX12_bestReversal_15 : decode cX12_bestReversal 15 = .ok (.iconst 1, 1) := by decide +kernel
theorem dX12_bestReversal_16 : decode cX12_bestReversal 16 = .ok (.bipush 100, 2) := by decide +kernel
theorem dX12_bestReversal_18 : decode cX12_bestReversal 18 = .ok (.invokestatic 57, 3) := by decide +kernel
theorem dX12_bestReversal_21 : decode cX12_bestReversal 21 = .ok (.ifCond .ne 7, 3) := by decide +kernel
theorem dX12_bestReversal_24 : decode cX12_bestReversal 24 = .ok (.iconst 1, 1) := by decide +kernel
theorem dX12_bestReversal_25 : decode cX12_bestReversal 25 = .ok (.goto 4, 3) := by decide +kernel
theorem dX12_bestReversal_28 : decode cX12_bestReversal 28 = .ok (.iconst 0, 1) := by decide +kernel
theorem dX12_bestReversal_29 : decode cX12_bestReversal 29 = .ok (.invokevirtual 345, 3) := by decide +kernel
theorem dX12_bestReversal_32 : decode cX12_bestReversal 32 = .ok (.ifCond .eq 5, 3) := by decide +kernel
theorem dX12_bestReversal_35 : decode cX12_bestReversal 35 = .ok (.iconst 0, 1) := by decide +kernel
theorem dX12_bestReversal_36 : decode cX12_bestReversal 36 = .ok (.ireturn, 1) := by decide +kernel
theorem dX12_bestReversal_37 : decode cX12_bestReversal 37 = .ok (.iconst (-1), 1) := by decide +kernel
theorem dX12_bestReversal_38 : decode cX12_bestReversal 38 = .ok (.istore_n 3, 1) := by decide +kernel
theorem dX12_bestReversal_39 : decode cX12_bestReversal 39 = .ok (.iconst 0, 1) := by decide +kernel
theorem dX12_bestReversal_40 : decode cX12_bestReversal 40 = .ok (.istore 4, 2) := by decide +kernel
theorem dX12_bestReversal_42 : decode cX12_bestReversal 42 = .ok (.iconst 0, 1) := by decide +kernel
theorem dX12_bestReversal_43 : decode cX12_bestReversal 43 = .ok (.istore 5, 2) := by decide +kernel
theorem dX12_bestReversal_45 : decode cX12_bestReversal 45 = .ok (.iload 5, 2) := by decide +kernel
theorem dX12_bestReversal_47 : decode cX12_bestReversal 47 = .ok (.iload_n 2, 1) := by decide +kernel
theorem dX12_bestReversal_48 : decode cX12_bestReversal 48 = .ok (.if_icmp .gt 46, 3) := by decide +kernel
theorem dX12_bestReversal_51 : decode cX12_bestReversal 51 = .ok (.aload_n 0, 1) := by decide +kernel
theorem dX12_bestReversal_52 : decode cX12_bestReversal 52 = .ok (.iload_n 1, 1) := by decide +kernel
theorem dX12_bestReversal_53 : decode cX12_bestReversal 53 = .ok (.invokevirtual 73, 3) := by decide +kernel
theorem dX12_bestReversal_56 : decode cX12_bestReversal 56 = .ok (.ifCond .ne 38, 3) := by decide +kernel
theorem dX12_bestReversal_59 : decode cX12_bestReversal 59 = .ok (.aload_n 0, 1) := by decide +kernel
theorem dX12_bestReversal_60 : decode cX12_bestReversal 60 = .ok (.iload_n 1, 1) := by decide +kernel
theorem dX12_bestReversal_61 : decode cX12_bestReversal 61 = .ok (.iload 5, 2) := by decide +kernel
theorem dX12_bestReversal_63 : decode cX12_bestReversal 63 = .ok (.iload_n 2, 1) := by decide +kernel
theorem dX12_bestReversal_64 : decode cX12_bestReversal 64 = .ok (.invokevirtual 384, 3) := by decide +kernel
theorem dX12_bestReversal_67 : decode cX12_bestReversal 67 = .ok (.istore 6, 2) := by decide +kernel
theorem dX12_bestReversal_69 : decode cX12_bestReversal 69 = .ok (.iload_n 3, 1) := by decide +kernel
theorem dX12_bestReversal_70 : decode cX12_bestReversal 70 = .ok (.iconst (-1), 1) := by decide +kernel
theorem dX12_bestReversal_71 : decode cX12_bestReversal 71 = .ok (.if_icmp .eq 10, 3) := by decide +kernel
theorem dX12_bestReversal_74 : decode cX12_bestReversal 74 = .ok (.iload 6, 2) := by decide +kernel
theorem dX12_bestReversal_76 : decode cX12_bestReversal 76 = .ok (.iload 4, 2) := by decide +kernel
theorem dX12_bestReversal_78 : decode cX12_bestReversal 78 = .ok (.if_icmp .ge 10, 3) := by decide +kernel
theorem dX12_bestReversal_81 : decode cX12_bestReversal 81 = .ok (.iload 5, 2) := by decide +kernel
theorem dX12_bestReversal_83 : decode cX12_bestReversal 83 = .ok (.istore_n 3, 1) := by decide +kernel
theorem dX12_bestReversal_84 : decode cX12_bestReversal 84 = .ok (.iload 6, 2) := by decide +kernel
theorem dX12_bestReversal_86 : decode cX12_bestReversal 86 = .ok (.istore 4, 2) := by decide +kernel
theorem dX12_bestReversal_88 : decode cX12_bestReversal 88 = .ok (.iinc 5 1, 3) := by decide +kernel
theorem dX12_bestReversal_91 : decode cX12_bestReversal 91 = .ok (.goto (-46), 3) := by decide +kernel
theorem dX12_bestReversal_94 : decode cX12_bestReversal 94 = .ok (.iload_n 3, 1) := by decide +kernel
theorem dX12_bestReversal_95 : decode cX12_bestReversal 95 = .ok (.ireturn, 1) := by decide +kernel
theorem dX12_slowestSpeed_0 : decode cX12_slowestSpeed 0 = .ok (.aload_n 0, 1) := by decide +kernel
theorem dX12_slowestSpeed_1 : decode cX12_slowestSpeed 1 = .ok (.aload_n 0, 1) := by decide +kernel
theorem dX12_slowestSpeed_2 : decode cX12_slowestSpeed 2 = .ok (.iload_n 1, 1) := by decide +kernel
theorem dX12_slowestSpeed_3 : decode cX12_slowestSpeed 3 = .ok (.invokevirtual 348, 3) := by decide +kernel
theorem dX12_slowestSpeed_6 : decode cX12_slowestSpeed 6 = .ok (.ifCond .ne 7, 3) := by decide +kernel
theorem dX12_slowestSpeed_9 : decode cX12_slowestSpeed 9 = .ok (.iconst 1, 1) := by decide +kernel
theorem dX12_slowestSpeed_10 : decode cX12_slowestSpeed 10 = .ok (.goto 4, 3) := by decide +kernel
theorem dX12_slowestSpeed_13 : decode cX12_slowestSpeed 13 = .ok (.iconst 0, 1) := by decide +kernel
theorem dX12_slowestSpeed_14 : decode cX12_slowestSpeed 14 = .ok (.iload_n 2, 1) := by decide +kernel
theorem dX12_slowestSpeed_15 : decode cX12_slowestSpeed 15 = .ok (.iconst 0, 1) := by decide +kernel
theorem dX12_slowestSpeed_16 : decode cX12_slowestSpeed 16 = .ok (.sipush 200, 3) := by decide +kernel
theorem dX12_slowestSpeed_19 : decode cX12_slowestSpeed 19 = .ok (.invokestatic 57, 3) := by decide +kernel
theorem dX12_slowestSpeed_22 : decode cX12_slowestSpeed 22 = .ok (.ifCond .ne 7, 3) := by decide +kernel
theorem dX12_slowestSpeed_25 : decode cX12_slowestSpeed 25 = .ok (.iconst 1, 1) := by decide +kernel
theorem dX12_slowestSpeed_26 : decode cX12_slowestSpeed 26 = .ok (.goto 4, 3) := by decide +kernel
theorem dX12_slowestSpeed_29 : decode cX12_slowestSpeed 29 = .ok (.iconst 0, 1) := by decide +kernel
theorem dX12_slowestSpeed_30 : decode cX12_slowestSpeed 30 = .ok (.invokevirtual 345, 3) := by decide +kernel
theorem dX12_slowestSpeed_33 : decode cX12_slowestSpeed 33 = .ok (.ifCond .eq 5, 3) := by decide +kernel
theorem dX12_slowestSpeed_36 : decode cX12_slowestSpeed 36 = .ok (.iconst 0, 1) := by decide +kernel
theorem dX12_slowestSpeed_37 : decode cX12_slowestSpeed 37 = .ok (.ireturn, 1) := by decide +kernel
theorem dX12_slowestSpeed_38 : decode cX12_slowestSpeed 38 = .ok (.iconst 0, 1) := by decide +kernel
theorem dX12_slowestSpeed_39 : decode cX12_slowestSpeed 39 = .ok (.istore_n 3, 1) := by decide +kernel
theorem dX12_slowestSpeed_40 : decode cX12_slowestSpeed 40 = .ok (.iload_n 3, 1) := by decide +kernel
theorem dX12_slowestSpeed_41 : decode cX12_slowestSpeed 41 = .ok (.iconst 5, 1) := by decide +kernel
theorem dX12_slowestSpeed_42 : decode cX12_slowestSpeed 42 = .ok (.if_icmp .gt 21, 3) := by decide +kernel
theorem dX12_slowestSpeed_45 : decode cX12_slowestSpeed 45 = .ok (.aload_n 0, 1) := by decide +kernel
theorem dX12_slowestSpeed_46 : decode cX12_slowestSpeed 46 = .ok (.iload_n 1, 1) := by decide +kernel
theorem dX12_slowestSpeed_47 : decode cX12_slowestSpeed 47 = .ok (.iload_n 3, 1) := by decide +kernel
theorem dX12_slowestSpeed_48 : decode cX12_slowestSpeed 48 = .ok (.iload_n 2, 1) := by decide +kernel
theorem dX12_slowestSpeed_49 : decode cX12_slowestSpeed 49 = .ok (.invokevirtual 387, 3) := by decide +kernel
theorem dX12_slowestSpeed_52 : decode cX12_slowestSpeed 52 = .ok (.ifCond .eq 5, 3) := by decide +kernel
theorem dX12_slowestSpeed_55 : decode cX12_slowestSpeed 55 = .ok (.iload_n 3, 1) := by decide +kernel
theorem dX12_slowestSpeed_56 : decode cX12_slowestSpeed 56 = .ok (.ireturn, 1) := by decide +kernel
theorem dX12_slowestSpeed_57 : decode cX12_slowestSpeed 57 = .ok (.iinc 3 1, 3) := by decide +kernel
theorem dX12_slowestSpeed_60 : decode cX12_slowestSpeed 60 = .ok (.goto (-20), 3) := by decide +kernel
theorem dX12_slowestSpeed_63 : decode cX12_slowestSpeed 63 = .ok (.iconst (-1), 1) := by decide +kernel
theorem dX12_slowestSpeed_64 : decode cX12_slowestSpeed 64 = .ok (.ireturn, 1) := by decide +kernel
theorem dX12_dischargedKilograms_0 : decode cX12_dischargedKilograms 0 = .ok (.aload_n 0, 1) := by decide +kernel
theorem dX12_dischargedKilograms_1 : decode cX12_dischargedKilograms 1 = .ok (.bipush 12, 2) := by decide +kernel
theorem dX12_dischargedKilograms_3 : decode cX12_dischargedKilograms 3 = .ok (.invokevirtual 370, 3) := by decide +kernel
theorem dX12_dischargedKilograms_6 : decode cX12_dischargedKilograms 6 = .ok (.ireturn, 1) := by decide +kernel
theorem dX12_discardedKilograms_0 : decode cX12_discardedKilograms 0 = .ok (.aload_n 0, 1) := by decide +kernel
theorem dX12_discardedKilograms_1 : decode cX12_discardedKilograms 1 = .ok (.bipush 13, 2) := by decide +kernel
theorem dX12_discardedKilograms_3 : decode cX12_discardedKilograms 3 = .ok (.invokevirtual 370, 3) := by decide +kernel
theorem dX12_discardedKilograms_6 : decode cX12_discardedKilograms 6 = .ok (.ireturn, 1) := by decide +kernel
theorem dX12_totalWorth_0 : decode cX12_totalWorth 0 = .ok (.aload_n 0, 1) := by decide +kernel
theorem dX12_totalWorth_1 : decode cX12_totalWorth 1 = .ok (.bipush 14, 2) := by decide +kernel
theorem dX12_totalWorth_3 : decode cX12_totalWorth 3 = .ok (.invokevirtual 370, 3) := by decide +kernel
theorem dX12_totalWorth_6 : decode cX12_totalWorth 6 = .ok (.ireturn, 1) := by decide +kernel
theorem dX12_lostWater_0 : decode cX12_lostWater 0 = .ok (.aload_n 0, 1) := by decide +kernel
theorem dX12_lostWater_1 : decode cX12_lostWater 1 = .ok (.bipush 15, 2) := by decide +kernel
theorem dX12_lostWater_3 : decode cX12_lostWater 3 = .ok (.invokevirtual 370, 3) := by decide +kernel
theorem dX12_lostWater_6 : decode cX12_lostWater 6 = .ok (.ireturn, 1) := by decide +kernel
theorem dX12_leafMany_0 : decode cX12_leafMany 0 = .ok (.iconst 0, 1) := by decide +kernel
theorem dX12_leafMany_1 : decode cX12_leafMany 1 = .ok (.istore_n 1, 1) := by decide +kernel
theorem dX12_leafMany_2 : decode cX12_leafMany 2 = .ok (.iconst 0, 1) := by decide +kernel
theorem dX12_leafMany_3 : decode cX12_leafMany 3 = .ok (.istore_n 2, 1) := by decide +kernel
theorem dX12_leafMany_4 : decode cX12_leafMany 4 = .ok (.iload_n 2, 1) := by decide +kernel
theorem dX12_leafMany_5 : decode cX12_leafMany 5 = .ok (.aload_n 0, 1) := by decide +kernel
theorem dX12_leafMany_6 : decode cX12_leafMany 6 = .ok (.getfield 7, 3) := by decide +kernel
theorem dX12_leafMany_9 : decode cX12_leafMany 9 = .ok (.bipush 9, 2) := by decide +kernel
theorem dX12_leafMany_11 : decode cX12_leafMany 11 = .ok (.iaload, 1) := by decide +kernel
theorem dX12_leafMany_12 : decode cX12_leafMany 12 = .ok (.if_icmp .ge 25, 3) := by decide +kernel
theorem dX12_leafMany_15 : decode cX12_leafMany 15 = .ok (.iload_n 1, 1) := by decide +kernel
theorem dX12_leafMany_16 : decode cX12_leafMany 16 = .ok (.aload_n 0, 1) := by decide +kernel
theorem dX12_leafMany_17 : decode cX12_leafMany 17 = .ok (.iload_n 2, 1) := by decide +kernel
theorem dX12_leafMany_18 : decode cX12_leafMany 18 = .ok (.invokevirtual 73, 3) := by decide +kernel
theorem dX12_leafMany_21 : decode cX12_leafMany 21 = .ok (.ifCond .eq 7, 3) := by decide +kernel
theorem dX12_leafMany_24 : decode cX12_leafMany 24 = .ok (.iconst 0, 1) := by decide +kernel
theorem dX12_leafMany_25 : decode cX12_leafMany 25 = .ok (.goto 4, 3) := by decide +kernel
theorem dX12_leafMany_28 : decode cX12_leafMany 28 = .ok (.iconst 1, 1) := by decide +kernel
theorem dX12_leafMany_29 : decode cX12_leafMany 29 = .ok (.iadd, 1) := by decide +kernel
theorem dX12_leafMany_30 : decode cX12_leafMany 30 = .ok (.istore_n 1, 1) := by decide +kernel
theorem dX12_leafMany_31 : decode cX12_leafMany 31 = .ok (.iinc 2 1, 3) := by decide +kernel
theorem dX12_leafMany_34 : decode cX12_leafMany 34 = .ok (.goto (-30), 3) := by decide +kernel
theorem dX12_leafMany_37 : decode cX12_leafMany 37 = .ok (.iload_n 1, 1) := by decide +kernel
theorem dX12_leafMany_38 : decode cX12_leafMany 38 = .ok (.ireturn, 1) := by decide +kernel
theorem dX12_meanMoisture_0 : decode cX12_meanMoisture 0 = .ok (.aload_n 0, 1) := by decide +kernel
theorem dX12_meanMoisture_1 : decode cX12_meanMoisture 1 = .ok (.iconst 0, 1) := by decide +kernel
theorem dX12_meanMoisture_2 : decode cX12_meanMoisture 2 = .ok (.putfield 54, 3) := by decide +kernel
theorem dX12_meanMoisture_5 : decode cX12_meanMoisture 5 = .ok (.iconst 0, 1) := by decide +kernel
theorem dX12_meanMoisture_6 : decode cX12_meanMoisture 6 = .ok (.istore_n 1, 1) := by decide +kernel
theorem dX12_meanMoisture_7 : decode cX12_meanMoisture 7 = .ok (.iconst 0, 1) := by decide +kernel
theorem dX12_meanMoisture_8 : decode cX12_meanMoisture 8 = .ok (.istore_n 2, 1) := by decide +kernel
theorem dX12_meanMoisture_9 : decode cX12_meanMoisture 9 = .ok (.iload_n 2, 1) := by decide +kernel
theorem dX12_meanMoisture_10 : decode cX12_meanMoisture 10 = .ok (.aload_n 0, 1) := by decide +kernel
theorem dX12_meanMoisture_11 : decode cX12_meanMoisture 11 = .ok (.getfield 7, 3) := by decide +kernel
theorem dX12_meanMoisture_14 : decode cX12_meanMoisture 14 = .ok (.bipush 9, 2) := by decide +kernel
theorem dX12_meanMoisture_16 : decode cX12_meanMoisture 16 = .ok (.iaload, 1) := by decide +kernel
theorem dX12_meanMoisture_17 : decode cX12_meanMoisture 17 = .ok (.if_icmp .ge 25, 3) := by decide +kernel
theorem dX12_meanMoisture_20 : decode cX12_meanMoisture 20 = .ok (.iload_n 1, 1) := by decide +kernel
theorem dX12_meanMoisture_21 : decode cX12_meanMoisture 21 = .ok (.aload_n 0, 1) := by decide +kernel
theorem dX12_meanMoisture_22 : decode cX12_meanMoisture 22 = .ok (.iload_n 2, 1) := by decide +kernel
theorem dX12_meanMoisture_23 : decode cX12_meanMoisture 23 = .ok (.iconst 4, 1) := by decide +kernel
theorem dX12_meanMoisture_24 : decode cX12_meanMoisture 24 = .ok (.invokevirtual 61, 3) := by decide +kernel
theorem dX12_meanMoisture_27 : decode cX12_meanMoisture 27 = .ok (.aload_n 0, 1) := by decide +kernel
theorem dX12_meanMoisture_28 : decode cX12_meanMoisture 28 = .ok (.iload_n 2, 1) := by decide +kernel
theorem dX12_meanMoisture_29 : decode cX12_meanMoisture 29 = .ok (.iconst 5, 1) := by decide +kernel
theorem dX12_meanMoisture_30 : decode cX12_meanMoisture 30 = .ok (.invokevirtual 61, 3) := by decide +kernel
theorem dX12_meanMoisture_33 : decode cX12_meanMoisture 33 = .ok (.iadd, 1) := by decide +kernel
theorem dX12_meanMoisture_34 : decode cX12_meanMoisture 34 = .ok (.iadd, 1) := by decide +kernel
theorem dX12_meanMoisture_35 : decode cX12_meanMoisture 35 = .ok (.istore_n 1, 1) := by decide +kernel
theorem dX12_meanMoisture_36 : decode cX12_meanMoisture 36 = .ok (.iinc 2 1, 3) := by decide +kernel
theorem dX12_meanMoisture_39 : decode cX12_meanMoisture 39 = .ok (.goto (-30), 3) := by decide +kernel
theorem dX12_meanMoisture_42 : decode cX12_meanMoisture 42 = .ok (.iconst 2, 1) := by decide +kernel
theorem dX12_meanMoisture_43 : decode cX12_meanMoisture 43 = .ok (.aload_n 0, 1) := by decide +kernel
theorem dX12_meanMoisture_44 : decode cX12_meanMoisture 44 = .ok (.invokevirtual 390, 3) := by decide +kernel
theorem dX12_meanMoisture_47 : decode cX12_meanMoisture 47 = .ok (.imul, 1) := by decide +kernel
theorem dX12_meanMoisture_48 : decode cX12_meanMoisture 48 = .ok (.istore_n 2, 1) := by decide +kernel
theorem dX12_meanMoisture_49 : decode cX12_meanMoisture 49 = .ok (.iload_n 2, 1) := by decide +kernel
theorem dX12_meanMoisture_50 : decode cX12_meanMoisture 50 = .ok (.ifCond .ne 7, 3) := by decide +kernel
theorem dX12_meanMoisture_53 : decode cX12_meanMoisture 53 = .ok (.dconst 0, 1) := by decide +kernel
theorem dX12_meanMoisture_54 : decode cX12_meanMoisture 54 = .ok (.goto 8, 3) := by decide +kernel
theorem dX12_meanMoisture_57 : decode cX12_meanMoisture 57 = .ok (.iload_n 1, 1) := by decide +kernel
theorem dX12_meanMoisture_58 : decode cX12_meanMoisture 58 = .ok (.i2d, 1) := by decide +kernel
theorem dX12_meanMoisture_59 : decode cX12_meanMoisture 59 = .ok (.iload_n 2, 1) := by decide +kernel
theorem dX12_meanMoisture_60 : decode cX12_meanMoisture 60 = .ok (.i2d, 1) := by decide +kernel
theorem dX12_meanMoisture_61 : decode cX12_meanMoisture 61 = .ok (.ddiv, 1) := by decide +kernel
theorem dX12_meanMoisture_62 : decode cX12_meanMoisture 62 = .ok (.dreturn, 1) := by decide +kernel
theorem dX12_readyShare_0 : decode cX12_readyShare 0 = .ok (.aload_n 0, 1) := by decide +kernel
theorem dX12_readyShare_1 : decode cX12_readyShare 1 = .ok (.iconst 0, 1) := by decide +kernel
theorem dX12_readyShare_2 : decode cX12_readyShare 2 = .ok (.putfield 54, 3) := by decide +kernel
theorem dX12_readyShare_5 : decode cX12_readyShare 5 = .ok (.aload_n 0, 1) := by decide +kernel
theorem dX12_readyShare_6 : decode cX12_readyShare 6 = .ok (.invokevirtual 390, 3) := by decide +kernel
theorem dX12_readyShare_9 : decode cX12_readyShare 9 = .ok (.ifCond .ne 7, 3) := by decide +kernel
theorem dX12_readyShare_12 : decode cX12_readyShare 12 = .ok (.fconst 0, 1) := by decide +kernel
theorem dX12_readyShare_13 : decode cX12_readyShare 13 = .ok (.goto 14, 3) := by decide +kernel
theorem dX12_readyShare_16 : decode cX12_readyShare 16 = .ok (.aload_n 0, 1) := by decide +kernel
theorem dX12_readyShare_17 : decode cX12_readyShare 17 = .ok (.invokevirtual 128, 3) := by decide +kernel
theorem dX12_readyShare_20 : decode cX12_readyShare 20 = .ok (.i2f, 1) := by decide +kernel
theorem dX12_readyShare_21 : decode cX12_readyShare 21 = .ok (.aload_n 0, 1) := by decide +kernel
theorem dX12_readyShare_22 : decode cX12_readyShare 22 = .ok (.invokevirtual 390, 3) := by decide +kernel
theorem dX12_readyShare_25 : decode cX12_readyShare 25 = .ok (.i2f, 1) := by decide +kernel
theorem dX12_readyShare_26 : decode cX12_readyShare 26 = .ok (.fdiv, 1) := by decide +kernel
theorem dX12_readyShare_27 : decode cX12_readyShare 27 = .ok (.freturn, 1) := by decide +kernel
theorem dX12_wrongOf_0 : decode cX12_wrongOf 0 = .ok (.aload_n 0, 1) := by decide +kernel
theorem dX12_wrongOf_1 : decode cX12_wrongOf 1 = .ok (.iload_n 1, 1) := by decide +kernel
theorem dX12_wrongOf_2 : decode cX12_wrongOf 2 = .ok (.iconst 3, 1) := by decide +kernel
theorem dX12_wrongOf_3 : decode cX12_wrongOf 3 = .ok (.invokevirtual 61, 3) := by decide +kernel
theorem dX12_wrongOf_6 : decode cX12_wrongOf 6 = .ok (.aload_n 0, 1) := by decide +kernel
theorem dX12_wrongOf_7 : decode cX12_wrongOf 7 = .ok (.iload_n 1, 1) := by decide +kernel
theorem dX12_wrongOf_8 : decode cX12_wrongOf 8 = .ok (.iconst 0, 1) := by decide +kernel
theorem dX12_wrongOf_9 : decode cX12_wrongOf 9 = .ok (.invokevirtual 61, 3) := by decide +kernel
theorem dX12_wrongOf_12 : decode cX12_wrongOf 12 = .ok (.if_icmp .le 7, 3) := by decide +kernel
theorem dX12_wrongOf_15 : decode cX12_wrongOf 15 = .ok (.iconst 1, 1) := by decide +kernel
theorem dX12_wrongOf_16 : decode cX12_wrongOf 16 = .ok (.goto 4, 3) := by decide +kernel
theorem dX12_wrongOf_19 : decode cX12_wrongOf 19 = .ok (.iconst 0, 1) := by decide +kernel
theorem dX12_wrongOf_20 : decode cX12_wrongOf 20 = .ok (.istore_n 2, 1) := by decide +kernel
theorem dX12_wrongOf_21 : decode cX12_wrongOf 21 = .ok (.iload_n 2, 1) := by decide +kernel
theorem dX12_wrongOf_22 : decode cX12_wrongOf 22 = .ok (.aload_n 0, 1) := by decide +kernel
theorem dX12_wrongOf_23 : decode cX12_wrongOf 23 = .ok (.iload_n 1, 1) := by decide +kernel
theorem dX12_wrongOf_24 : decode cX12_wrongOf 24 = .ok (.invokevirtual 73, 3) := by decide +kernel
theorem dX12_wrongOf_27 : decode cX12_wrongOf 27 = .ok (.ifCond .ne 21, 3) := by decide +kernel
theorem dX12_wrongOf_30 : decode cX12_wrongOf 30 = .ok (.aload_n 0, 1) := by decide +kernel
theorem dX12_wrongOf_31 : decode cX12_wrongOf 31 = .ok (.iload_n 1, 1) := by decide +kernel
theorem dX12_wrongOf_32 : decode cX12_wrongOf 32 = .ok (.iconst 4, 1) := by decide +kernel
theorem dX12_wrongOf_33 : decode cX12_wrongOf 33 = .ok (.invokevirtual 61, 3) := by decide +kernel
theorem dX12_wrongOf_36 : decode cX12_wrongOf 36 = .ok (.sipush 300, 3) := by decide +kernel
theorem dX12_wrongOf_39 : decode cX12_wrongOf 39 = .ok (.sipush 900, 3) := by decide +kernel
theorem dX12_wrongOf_42 : decode cX12_wrongOf 42 = .ok (.invokestatic 57, 3) := by decide +kernel
theorem dX12_wrongOf_45 : decode cX12_wrongOf 45 = .ok (.ifCond .eq 7, 3) := by decide +kernel
theorem dX12_wrongOf_48 : decode cX12_wrongOf 48 = .ok (.iconst 0, 1) := by decide +kernel
theorem dX12_wrongOf_49 : decode cX12_wrongOf 49 = .ok (.goto 4, 3) := by decide +kernel
theorem dX12_wrongOf_52 : decode cX12_wrongOf 52 = .ok (.iconst 1, 1) := by decide +kernel
theorem dX12_wrongOf_53 : decode cX12_wrongOf 53 = .ok (.iadd, 1) := by decide +kernel
theorem dX12_wrongOf_54 : decode cX12_wrongOf 54 = .ok (.istore_n 2, 1) := by decide +kernel
theorem dX12_wrongOf_55 : decode cX12_wrongOf 55 = .ok (.iload_n 2, 1) := by decide +kernel
theorem dX12_wrongOf_56 : decode cX12_wrongOf 56 = .ok (.aload_n 0, 1) := by decide +kernel
theorem dX12_wrongOf_57 : decode cX12_wrongOf 57 = .ok (.iload_n 1, 1) := by decide +kernel
theorem dX12_wrongOf_58 : decode cX12_wrongOf 58 = .ok (.invokevirtual 73, 3) := by decide +kernel
theorem dX12_wrongOf_61 : decode cX12_wrongOf 61 = .ok (.ifCond .ne 21, 3) := by decide +kernel
theorem dX12_wrongOf_64 : decode cX12_wrongOf 64 = .ok (.aload_n 0, 1) := by decide +kernel
theorem dX12_wrongOf_65 : decode cX12_wrongOf 65 = .ok (.iload_n 1, 1) := by decide +kernel
theorem dX12_wrongOf_66 : decode cX12_wrongOf 66 = .ok (.iconst 5, 1) := by decide +kernel
theorem dX12_wrongOf_67 : decode cX12_wrongOf 67 = .ok (.invokevirtual 61, 3) := by decide +kernel
theorem dX12_wrongOf_70 : decode cX12_wrongOf 70 = .ok (.sipush 300, 3) := by decide +kernel
theorem dX12_wrongOf_73 : decode cX12_wrongOf 73 = .ok (.sipush 900, 3) := by decide +kernel
theorem dX12_wrongOf_76 : decode cX12_wrongOf 76 = .ok (.invokestatic 57, 3) := by decide +kernel
theorem dX12_wrongOf_79 : decode cX12_wrongOf 79 = .ok (.ifCond .eq 7, 3) := by decide +kernel
theorem dX12_wrongOf_82 : decode cX12_wrongOf 82 = .ok (.iconst 0, 1) := by decide +kernel
theorem dX12_wrongOf_83 : decode cX12_wrongOf 83 = .ok (.goto 4, 3) := by decide +kernel
theorem dX12_wrongOf_86 : decode cX12_wrongOf 86 = .ok (.iconst 1, 1) := by decide +kernel
theorem dX12_wrongOf_87 : decode cX12_wrongOf 87 = .ok (.iadd, 1) := by decide +kernel
theorem dX12_wrongOf_88 : decode cX12_wrongOf 88 = .ok (.istore_n 2, 1) := by decide +kernel
theorem dX12_wrongOf_89 : decode cX12_wrongOf 89 = .ok (.iload_n 2, 1) := by decide +kernel
theorem dX12_wrongOf_90 : decode cX12_wrongOf 90 = .ok (.aload_n 0, 1) := by decide +kernel
theorem dX12_wrongOf_91 : decode cX12_wrongOf 91 = .ok (.iload_n 1, 1) := by decide +kernel
theorem dX12_wrongOf_92 : decode cX12_wrongOf 92 = .ok (.bipush 6, 2) := by decide +kernel
theorem dX12_wrongOf_94 : decode cX12_wrongOf 94 = .ok (.invokevirtual 61, 3) := by decide +kernel
theorem dX12_wrongOf_97 : decode cX12_wrongOf 97 = .ok (.iconst 0, 1) := by decide +kernel
theorem dX12_wrongOf_98 : decode cX12_wrongOf 98 = .ok (.bipush 20, 2) := by decide +kernel
theorem dX12_wrongOf_100 : decode cX12_wrongOf 100 = .ok (.invokestatic 57, 3) := by decide +kernel
theorem dX12_wrongOf_103 : decode cX12_wrongOf 103 = .ok (.ifCond .eq 7, 3) := by decide +kernel
theorem dX12_wrongOf_106 : decode cX12_wrongOf 106 = .ok (.iconst 0, 1) := by decide +kernel
theorem dX12_wrongOf_107 : decode cX12_wrongOf 107 = .ok (.goto 4, 3) := by decide +kernel
theorem dX12_wrongOf_110 : decode cX12_wrongOf 110 = .ok (.iconst 1, 1) := by decide +kernel
theorem dX12_wrongOf_111 : decode cX12_wrongOf 111 = .ok (.iadd, 1) := by decide +kernel
theorem dX12_wrongOf_112 : decode cX12_wrongOf 112 = .ok (.ireturn, 1) := by decide +kernel
theorem dX12_violations_0 : decode cX12_violations 0 = .ok (.aload_n 0, 1) := by decide +kernel
theorem dX12_violations_1 : decode cX12_violations 1 = .ok (.iconst 0, 1) := by decide +kernel
theorem dX12_violations_2 : decode cX12_violations 2 = .ok (.putfield 54, 3) := by decide +kernel
theorem dX12_violations_5 : decode cX12_violations 5 = .ok (.aload_n 0, 1) := by decide +kernel
theorem dX12_violations_6 : decode cX12_violations 6 = .ok (.getfield 7, 3) := by decide +kernel
theorem dX12_violations_9 : decode cX12_violations 9 = .ok (.bipush 11, 2) := by decide +kernel
theorem dX12_violations_11 : decode cX12_violations 11 = .ok (.iaload, 1) := by decide +kernel
theorem dX12_violations_12 : decode cX12_violations 12 = .ok (.aload_n 0, 1) := by decide +kernel
theorem dX12_violations_13 : decode cX12_violations 13 = .ok (.getfield 7, 3) := by decide +kernel
theorem dX12_violations_16 : decode cX12_violations 16 = .ok (.bipush 12, 2) := by decide +kernel
theorem dX12_violations_18 : decode cX12_violations 18 = .ok (.iaload, 1) := by decide +kernel
theorem dX12_violations_19 : decode cX12_violations 19 = .ok (.isub, 1) := by decide +kernel
theorem dX12_violations_20 : decode cX12_violations 20 = .ok (.aload_n 0, 1) := by decide +kernel
theorem dX12_violations_21 : decode cX12_violations 21 = .ok (.getfield 7, 3) := by decide +kernel
theorem dX12_violations_24 : decode cX12_violations 24 = .ok (.bipush 13, 2) := by decide +kernel
theorem dX12_violations_26 : decode cX12_violations 26 = .ok (.iaload, 1) := by decide +kernel
theorem dX12_violations_27 : decode cX12_violations 27 = .ok (.isub, 1) := by decide +kernel
theorem dX12_violations_28 : decode cX12_violations 28 = .ok (.istore_n 1, 1) := by decide +kernel
theorem dX12_violations_29 : decode cX12_violations 29 = .ok (.sipush 2000, 3) := by decide +kernel
theorem dX12_violations_32 : decode cX12_violations 32 = .ok (.aload_n 0, 1) := by decide +kernel
theorem dX12_violations_33 : decode cX12_violations 33 = .ok (.getfield 7, 3) := by decide +kernel
theorem dX12_violations_36 : decode cX12_violations 36 = .ok (.bipush 11, 2) := by decide +kernel
theorem dX12_violations_38 : decode cX12_violations 38 = .ok (.iaload, 1) := by decide +kernel
theorem dX12_violations_39 : decode cX12_violations 39 = .ok (.imul, 1) := by decide +kernel
theorem dX12_violations_40 : decode cX12_violations 40 = .ok (.aload_n 0, 1) := by decide +kernel
theorem dX12_violations_41 : decode cX12_violations 41 = .ok (.getfield 7, 3) := by decide +kernel
theorem dX12_violations_44 : decode cX12_violations 44 = .ok (.bipush 16, 2) := by decide +kernel
theorem dX12_violations_46 : decode cX12_violations 46 = .ok (.iaload, 1) := by decide +kernel
theorem dX12_violations_47 : decode cX12_violations 47 = .ok (.isub, 1) := by decide +kernel
theorem dX12_violations_48 : decode cX12_violations 48 = .ok (.aload_n 0, 1) := by decide +kernel
theorem dX12_violations_49 : decode cX12_violations 49 = .ok (.getfield 7, 3) := by decide +kernel
theorem dX12_violations_52 : decode cX12_violations 52 = .ok (.bipush 15, 2) := by decide +kernel
theorem dX12_violations_54 : decode cX12_violations 54 = .ok (.iaload, 1) := by decide +kernel
theorem dX12_violations_55 : decode cX12_violations 55 = .ok (.isub, 1) := by decide +kernel
theorem dX12_violations_56 : decode cX12_violations 56 = .ok (.istore_n 2, 1) := by decide +kernel
theorem dX12_violations_57 : decode cX12_violations 57 = .ok (.iconst 0, 1) := by decide +kernel
theorem dX12_violations_58 : decode cX12_violations 58 = .ok (.istore_n 3, 1) := by decide +kernel
theorem dX12_violations_59 : decode cX12_violations 59 = .ok (.iconst 0, 1) := by decide +kernel
theorem dX12_violations_60 : decode cX12_violations 60 = .ok (.istore 4, 2) := by decide +kernel
theorem dX12_violations_62 : decode cX12_violations 62 = .ok (.iload 4, 2) := by decide +kernel
theorem dX12_violations_64 : decode cX12_violations 64 = .ok (.aload_n 0, 1) := by decide +kernel
theorem dX12_violations_65 : decode cX12_violations 65 = .ok (.getfield 7, 3) := by decide +kernel
theorem dX12_violations_68 : decode cX12_violations 68 = .ok (.bipush 9, 2) := by decide +kernel
theorem dX12_violations_70 : decode cX12_violations 70 = .ok (.iaload, 1) := by decide +kernel
theorem dX12_violations_71 : decode cX12_violations 71 = .ok (.if_icmp .ge 39, 3) := by decide +kernel
theorem dX12_violations_74 : decode cX12_violations 74 = .ok (.iload_n 1, 1) := by decide +kernel
theorem dX12_violations_75 : decode cX12_violations 75 = .ok (.aload_n 0, 1) := by decide +kernel
theorem dX12_violations_76 : decode cX12_violations 76 = .ok (.iload 4, 2) := by decide +kernel
theorem dX12_violations_78 : decode cX12_violations 78 = .ok (.iconst 3, 1) := by decide +kernel
theorem dX12_violations_79 : decode cX12_violations 79 = .ok (.invokevirtual 61, 3) := by decide +kernel
theorem dX12_violations_82 : decode cX12_violations 82 = .ok (.isub, 1) := by decide +kernel
theorem dX12_violations_83 : decode cX12_violations 83 = .ok (.istore_n 1, 1) := by decide +kernel
theorem dX12_violations_84 : decode cX12_violations 84 = .ok (.iload_n 2, 1) := by decide +kernel
theorem dX12_violations_85 : decode cX12_violations 85 = .ok (.aload_n 0, 1) := by decide +kernel
theorem dX12_violations_86 : decode cX12_violations 86 = .ok (.iload 4, 2) := by decide +kernel
theorem dX12_violations_88 : decode cX12_violations 88 = .ok (.bipush 8, 2) := by decide +kernel
theorem dX12_violations_90 : decode cX12_violations 90 = .ok (.invokevirtual 61, 3) := by decide +kernel
theorem dX12_violations_93 : decode cX12_violations 93 = .ok (.isub, 1) := by decide +kernel
theorem dX12_violations_94 : decode cX12_violations 94 = .ok (.istore_n 2, 1) := by decide +kernel
theorem dX12_violations_95 : decode cX12_violations 95 = .ok (.iload_n 3, 1) := by decide +kernel
theorem dX12_violations_96 : decode cX12_violations 96 = .ok (.aload_n 0, 1) := by decide +kernel
theorem dX12_violations_97 : decode cX12_violations 97 = .ok (.iload 4, 2) := by decide +kernel
theorem dX12_violations_99 : decode cX12_violations 99 = .ok (.invokevirtual 393, 3) := by decide +kernel
theorem dX12_violations_102 : decode cX12_violations 102 = .ok (.iadd, 1) := by decide +kernel
theorem dX12_violations_103 : decode cX12_violations 103 = .ok (.istore_n 3, 1) := by decide +kernel
theorem dX12_violations_104 : decode cX12_violations 104 = .ok (.iinc 4 1, 3) := by decide +kernel
theorem dX12_violations_107 : decode cX12_violations 107 = .ok (.goto (-45), 3) := by decide +kernel
theorem dX12_violations_110 : decode cX12_violations 110 = .ok (.iload_n 3, 1) := by decide +kernel
theorem dX12_violations_111 : decode cX12_violations 111 = .ok (.iload_n 1, 1) := by decide +kernel
theorem dX12_violations_112 : decode cX12_violations 112 = .ok (.invokestatic 82, 3) := by decide +kernel
theorem dX12_violations_115 : decode cX12_violations 115 = .ok (.iadd, 1) := by decide +kernel
theorem dX12_violations_116 : decode cX12_violations 116 = .ok (.iload_n 2, 1) := by decide +kernel
theorem dX12_violations_117 : decode cX12_violations 117 = .ok (.invokestatic 82, 3) := by decide +kernel
theorem dX12_violations_120 : decode cX12_violations 120 = .ok (.iadd, 1) := by decide +kernel
theorem dX12_violations_121 : decode cX12_violations 121 = .ok (.ireturn, 1) := by decide +kernel
theorem dX12_write_0 : decode cX12_write 0 = .ok (.aload_n 0, 1) := by decide +kernel
theorem dX12_write_1 : decode cX12_write 1 = .ok (.getfield 35, 3) := by decide +kernel
theorem dX12_write_4 : decode cX12_write 4 = .ok (.aload_n 0, 1) := by decide +kernel
theorem dX12_write_5 : decode cX12_write 5 = .ok (.getfield 396, 3) := by decide +kernel
theorem dX12_write_8 : decode cX12_write 8 = .ok (.iload_n 1, 1) := by decide +kernel
theorem dX12_write_9 : decode cX12_write 9 = .ok (.i2c, 1) := by decide +kernel
theorem dX12_write_10 : decode cX12_write 10 = .ok (.castore, 1) := by decide +kernel
theorem dX12_write_11 : decode cX12_write 11 = .ok (.aload_n 0, 1) := by decide +kernel
theorem dX12_write_12 : decode cX12_write 12 = .ok (.dup, 1) := by decide +kernel
theorem dX12_write_13 : decode cX12_write 13 = .ok (.getfield 396, 3) := by decide +kernel
theorem dX12_write_16 : decode cX12_write 16 = .ok (.iconst 1, 1) := by decide +kernel
theorem dX12_write_17 : decode cX12_write 17 = .ok (.iadd, 1) := by decide +kernel
theorem dX12_write_18 : decode cX12_write 18 = .ok (.putfield 396, 3) := by decide +kernel
theorem dX12_write_21 : decode cX12_write 21 = .ok (.return_, 1) := by decide +kernel
theorem dX12_writeNumber_0 : decode cX12_writeNumber 0 = .ok (.iload_n 1, 1) := by decide +kernel
theorem dX12_writeNumber_1 : decode cX12_writeNumber 1 = .ok (.bipush 9, 2) := by decide +kernel
theorem dX12_writeNumber_3 : decode cX12_writeNumber 3 = .ok (.if_icmp .le 11, 3) := by decide +kernel
theorem dX12_writeNumber_6 : decode cX12_writeNumber 6 = .ok (.aload_n 0, 1) := by decide +kernel
theorem dX12_writeNumber_7 : decode cX12_writeNumber 7 = .ok (.iload_n 1, 1) := by decide +kernel
theorem dX12_writeNumber_8 : decode cX12_writeNumber 8 = .ok (.bipush 10, 2) := by decide +kernel
theorem dX12_writeNumber_10 : decode cX12_writeNumber 10 = .ok (.idiv, 1) := by decide +kernel
theorem dX12_writeNumber_11 : decode cX12_writeNumber 11 = .ok (.invokevirtual 399, 3) := by decide +kernel
theorem dX12_writeNumber_14 : decode cX12_writeNumber 14 = .ok (.aload_n 0, 1) := by decide +kernel
theorem dX12_writeNumber_15 : decode cX12_writeNumber 15 = .ok (.bipush 48, 2) := by decide +kernel
theorem dX12_writeNumber_17 : decode cX12_writeNumber 17 = .ok (.iload_n 1, 1) := by decide +kernel
theorem dX12_writeNumber_18 : decode cX12_writeNumber 18 = .ok (.bipush 10, 2) := by decide +kernel
theorem dX12_writeNumber_20 : decode cX12_writeNumber 20 = .ok (.irem, 1) := by decide +kernel
theorem dX12_writeNumber_21 : decode cX12_writeNumber 21 = .ok (.iadd, 1) := by decide +kernel
theorem dX12_writeNumber_22 : decode cX12_writeNumber 22 = .ok (.invokevirtual 402, 3) := by decide +kernel
theorem dX12_writeNumber_25 : decode cX12_writeNumber 25 = .ok (.return_, 1) := by decide +kernel
theorem dX12_writeTrough_0 : decode cX12_writeTrough 0 = .ok (.aload_n 0, 1) := by decide +kernel
theorem dX12_writeTrough_1 : decode cX12_writeTrough 1 = .ok (.aload_n 0, 1) := by decide +kernel
theorem dX12_writeTrough_2 : decode cX12_writeTrough 2 = .ok (.iload_n 1, 1) := by decide +kernel
theorem dX12_writeTrough_3 : decode cX12_writeTrough 3 = .ok (.iconst 1, 1) := by decide +kernel
theorem dX12_writeTrough_4 : decode cX12_writeTrough 4 = .ok (.invokevirtual 61, 3) := by decide +kernel
theorem dX12_writeTrough_7 : decode cX12_writeTrough 7 = .ok (.invokevirtual 399, 3) := by decide +kernel
theorem dX12_writeTrough_10 : decode cX12_writeTrough 10 = .ok (.aload_n 0, 1) := by decide +kernel
theorem dX12_writeTrough_11 : decode cX12_writeTrough 11 = .ok (.aload_n 0, 1) := by decide +kernel
theorem dX12_writeTrough_12 : decode cX12_writeTrough 12 = .ok (.iload_n 1, 1) := by decide +kernel
theorem dX12_writeTrough_13 : decode cX12_writeTrough 13 = .ok (.iconst 2, 1) := by decide +kernel
theorem dX12_writeTrough_14 : decode cX12_writeTrough 14 = .ok (.invokevirtual 61, 3) := by decide +kernel
theorem dX12_writeTrough_17 : decode cX12_writeTrough 17 = .ok (.ifCond .ne 8, 3) := by decide +kernel
theorem dX12_writeTrough_20 : decode cX12_writeTrough 20 = .ok (.bipush 117, 2) := by decide +kernel
theorem dX12_writeTrough_22 : decode cX12_writeTrough 22 = .ok (.goto 5, 3) := by decide +kernel
theorem dX12_writeTrough_25 : decode cX12_writeTrough 25 = .ok (.bipush 100, 2) := by decide +kernel
theorem dX12_writeTrough_27 : decode cX12_writeTrough 27 = .ok (.invokevirtual 402, 3) := by decide +kernel
theorem dX12_writeTrough_30 : decode cX12_writeTrough 30 = .ok (.aload_n 0, 1) := by decide +kernel
theorem dX12_writeTrough_31 : decode cX12_writeTrough 31 = .ok (.iload_n 1, 1) := by decide +kernel
theorem dX12_writeTrough_32 : decode cX12_writeTrough 32 = .ok (.invokevirtual 73, 3) := by decide +kernel
theorem dX12_writeTrough_35 : decode cX12_writeTrough 35 = .ok (.ifCond .ne 29, 3) := by decide +kernel
theorem dX12_writeTrough_38 : decode cX12_writeTrough 38 = .ok (.aload_n 0, 1) := by decide +kernel
theorem dX12_writeTrough_39 : decode cX12_writeTrough 39 = .ok (.aload_n 0, 1) := by decide +kernel
theorem dX12_writeTrough_40 : decode cX12_writeTrough 40 = .ok (.iload_n 1, 1) := by decide +kernel
theorem dX12_writeTrough_41 : decode cX12_writeTrough 41 = .ok (.iconst 4, 1) := by decide +kernel
theorem dX12_writeTrough_42 : decode cX12_writeTrough 42 = .ok (.invokevirtual 61, 3) := by decide +kernel
theorem dX12_writeTrough_45 : decode cX12_writeTrough 45 = .ok (.invokevirtual 399, 3) := by decide +kernel
theorem dX12_writeTrough_48 : decode cX12_writeTrough 48 = .ok (.aload_n 0, 1) := by decide +kernel
theorem dX12_writeTrough_49 : decode cX12_writeTrough 49 = .ok (.bipush 47, 2) := by decide +kernel
theorem dX12_writeTrough_51 : decode cX12_writeTrough 51 = .ok (.invokevirtual 402, 3) := by decide +kernel
theorem dX12_writeTrough_54 : decode cX12_writeTrough 54 = .ok (.aload_n 0, 1) := by decide +kernel
theorem dX12_writeTrough_55 : decode cX12_writeTrough 55 = .ok (.aload_n 0, 1) := by decide +kernel
theorem dX12_writeTrough_56 : decode cX12_writeTrough 56 = .ok (.iload_n 1, 1) := by decide +kernel
theorem dX12_writeTrough_57 : decode cX12_writeTrough 57 = .ok (.iconst 5, 1) := by decide +kernel
theorem dX12_writeTrough_58 : decode cX12_writeTrough 58 = .ok (.invokevirtual 61, 3) := by decide +kernel
theorem dX12_writeTrough_61 : decode cX12_writeTrough 61 = .ok (.invokevirtual 399, 3) := by decide +kernel
theorem dX12_writeTrough_64 : decode cX12_writeTrough 64 = .ok (.aload_n 0, 1) := by decide +kernel
theorem dX12_writeTrough_65 : decode cX12_writeTrough 65 = .ok (.iload_n 1, 1) := by decide +kernel
theorem dX12_writeTrough_66 : decode cX12_writeTrough 66 = .ok (.invokevirtual 99, 3) := by decide +kernel
theorem dX12_writeTrough_69 : decode cX12_writeTrough 69 = .ok (.ifCond .eq 9, 3) := by decide +kernel
theorem dX12_writeTrough_72 : decode cX12_writeTrough 72 = .ok (.aload_n 0, 1) := by decide +kernel
theorem dX12_writeTrough_73 : decode cX12_writeTrough 73 = .ok (.bipush 33, 2) := by decide +kernel
theorem dX12_writeTrough_75 : decode cX12_writeTrough 75 = .ok (.invokevirtual 402, 3) := by decide +kernel
theorem dX12_writeTrough_78 : decode cX12_writeTrough 78 = .ok (.return_, 1) := by decide +kernel
theorem dX12_writeTroughs_0 : decode cX12_writeTroughs 0 = .ok (.aload_n 0, 1) := by decide +kernel
theorem dX12_writeTroughs_1 : decode cX12_writeTroughs 1 = .ok (.iconst 0, 1) := by decide +kernel
theorem dX12_writeTroughs_2 : decode cX12_writeTroughs 2 = .ok (.putfield 54, 3) := by decide +kernel
theorem dX12_writeTroughs_5 : decode cX12_writeTroughs 5 = .ok (.aload_n 0, 1) := by decide +kernel
theorem dX12_writeTroughs_6 : decode cX12_writeTroughs 6 = .ok (.iconst 0, 1) := by decide +kernel
theorem dX12_writeTroughs_7 : decode cX12_writeTroughs 7 = .ok (.putfield 396, 3) := by decide +kernel
theorem dX12_writeTroughs_10 : decode cX12_writeTroughs 10 = .ok (.iconst 0, 1) := by decide +kernel
theorem dX12_writeTroughs_11 : decode cX12_writeTroughs 11 = .ok (.istore_n 1, 1) := by decide +kernel
theorem dX12_writeTroughs_12 : decode cX12_writeTroughs 12 = .ok (.iload_n 1, 1) := by decide +kernel
theorem dX12_writeTroughs_13 : decode cX12_writeTroughs 13 = .ok (.aload_n 0, 1) := by decide +kernel
theorem dX12_writeTroughs_14 : decode cX12_writeTroughs 14 = .ok (.getfield 7, 3) := by decide +kernel
theorem dX12_writeTroughs_17 : decode cX12_writeTroughs 17 = .ok (.bipush 9, 2) := by decide +kernel
theorem dX12_writeTroughs_19 : decode cX12_writeTroughs 19 = .ok (.iaload, 1) := by decide +kernel
theorem dX12_writeTroughs_20 : decode cX12_writeTroughs 20 = .ok (.if_icmp .ge 24, 3) := by decide +kernel
theorem dX12_writeTroughs_23 : decode cX12_writeTroughs 23 = .ok (.iload_n 1, 1) := by decide +kernel
theorem dX12_writeTroughs_24 : decode cX12_writeTroughs 24 = .ok (.ifCond .le 9, 3) := by decide +kernel
theorem dX12_writeTroughs_27 : decode cX12_writeTroughs 27 = .ok (.aload_n 0, 1) := by decide +kernel
theorem dX12_writeTroughs_28 : decode cX12_writeTroughs 28 = .ok (.bipush 32, 2) := by decide +kernel
theorem dX12_writeTroughs_30 : decode cX12_writeTroughs 30 = .ok (.invokevirtual 402, 3) := by decide +kernel
theorem dX12_writeTroughs_33 : decode cX12_writeTroughs 33 = .ok (.aload_n 0, 1) := by decide +kernel
theorem dX12_writeTroughs_34 : decode cX12_writeTroughs 34 = .ok (.iload_n 1, 1) := by decide +kernel
theorem dX12_writeTroughs_35 : decode cX12_writeTroughs 35 = .ok (.invokevirtual 405, 3) := by decide +kernel
theorem dX12_writeTroughs_38 : decode cX12_writeTroughs 38 = .ok (.iinc 1 1, 3) := by decide +kernel
theorem dX12_writeTroughs_41 : decode cX12_writeTroughs 41 = .ok (.goto (-29), 3) := by decide +kernel
theorem dX12_writeTroughs_44 : decode cX12_writeTroughs 44 = .ok (.aload_n 0, 1) := by decide +kernel
theorem dX12_writeTroughs_45 : decode cX12_writeTroughs 45 = .ok (.getfield 396, 3) := by decide +kernel
theorem dX12_writeTroughs_48 : decode cX12_writeTroughs 48 = .ok (.ireturn, 1) := by decide +kernel
theorem dX12_reportByte_0 : decode cX12_reportByte 0 = .ok (.aload_n 0, 1) := by decide +kernel
theorem dX12_reportByte_1 : decode cX12_reportByte 1 = .ok (.iconst 0, 1) := by decide +kernel
theorem dX12_reportByte_2 : decode cX12_reportByte 2 = .ok (.putfield 54, 3) := by decide +kernel
theorem dX12_reportByte_5 : decode cX12_reportByte 5 = .ok (.iload_n 1, 1) := by decide +kernel
theorem dX12_reportByte_6 : decode cX12_reportByte 6 = .ok (.iconst 0, 1) := by decide +kernel
theorem dX12_reportByte_7 : decode cX12_reportByte 7 = .ok (.aload_n 0, 1) := by decide +kernel
theorem dX12_reportByte_8 : decode cX12_reportByte 8 = .ok (.getfield 396, 3) := by decide +kernel
theorem dX12_reportByte_11 : decode cX12_reportByte 11 = .ok (.iconst 1, 1) := by decide +kernel
theorem dX12_reportByte_12 : decode cX12_reportByte 12 = .ok (.isub, 1) := by decide +kernel
theorem dX12_reportByte_13 : decode cX12_reportByte 13 = .ok (.invokestatic 57, 3) := by decide +kernel
theorem dX12_reportByte_16 : decode cX12_reportByte 16 = .ok (.ifCond .eq 12, 3) := by decide +kernel
theorem dX12_reportByte_19 : decode cX12_reportByte 19 = .ok (.aload_n 0, 1) := by decide +kernel
theorem dX12_reportByte_20 : decode cX12_reportByte 20 = .ok (.getfield 35, 3) := by decide +kernel
theorem dX12_reportByte_23 : decode cX12_reportByte 23 = .ok (.iload_n 1, 1) := by decide +kernel
theorem dX12_reportByte_24 : decode cX12_reportByte 24 = .ok (.caload, 1) := by decide +kernel
theorem dX12_reportByte_25 : decode cX12_reportByte 25 = .ok (.goto 4, 3) := by decide +kernel
theorem dX12_reportByte_28 : decode cX12_reportByte 28 = .ok (.iconst (-1), 1) := by decide +kernel
theorem dX12_reportByte_29 : decode cX12_reportByte 29 = .ok (.ireturn, 1) := by decide +kernel
