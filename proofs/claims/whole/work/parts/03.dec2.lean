theorem dX5_hasHouse_9 : decode cX5_hasHouse 9 = .ok (.if_icmp .ge 7, 3) := by decide +kernel
theorem dX5_hasHouse_12 : decode cX5_hasHouse 12 = .ok (.iconst 1, 1) := by decide +kernel
theorem dX5_hasHouse_13 : decode cX5_hasHouse 13 = .ok (.goto 4, 3) := by decide +kernel
theorem dX5_hasHouse_16 : decode cX5_hasHouse 16 = .ok (.iconst 0, 1) := by decide +kernel
theorem dX5_hasHouse_17 : decode cX5_hasHouse 17 = .ok (.ireturn, 1) := by decide +kernel
theorem dX5_hasSleeper_0 : decode cX5_hasSleeper 0 = .ok (.iload_n 1, 1) := by decide +kernel
theorem dX5_hasSleeper_1 : decode cX5_hasSleeper 1 = .ok (.ifCond .lt 15, 3) := by decide +kernel
theorem dX5_hasSleeper_4 : decode cX5_hasSleeper 4 = .ok (.iload_n 1, 1) := by decide +kernel
theorem dX5_hasSleeper_5 : decode cX5_hasSleeper 5 = .ok (.aload_n 0, 1) := by decide +kernel
theorem dX5_hasSleeper_6 : decode cX5_hasSleeper 6 = .ok (.getfield 37, 3) := by decide +kernel
theorem dX5_hasSleeper_9 : decode cX5_hasSleeper 9 = .ok (.if_icmp .ge 7, 3) := by decide +kernel
theorem dX5_hasSleeper_12 : decode cX5_hasSleeper 12 = .ok (.iconst 1, 1) := by decide +kernel
theorem dX5_hasSleeper_13 : decode cX5_hasSleeper 13 = .ok (.goto 4, 3) := by decide +kernel
theorem dX5_hasSleeper_16 : decode cX5_hasSleeper 16 = .ok (.iconst 0, 1) := by decide +kernel
theorem dX5_hasSleeper_17 : decode cX5_hasSleeper 17 = .ok (.ireturn, 1) := by decide +kernel
theorem dX5_sleepersOf_0 : decode cX5_sleepersOf 0 = .ok (.iconst 0, 1) := by decide +kernel
theorem dX5_sleepersOf_1 : decode cX5_sleepersOf 1 = .ok (.istore_n 2, 1) := by decide +kernel
theorem dX5_sleepersOf_2 : decode cX5_sleepersOf 2 = .ok (.iconst 0, 1) := by decide +kernel
theorem dX5_sleepersOf_3 : decode cX5_sleepersOf 3 = .ok (.istore_n 3, 1) := by decide +kernel
theorem dX5_sleepersOf_4 : decode cX5_sleepersOf 4 = .ok (.iload_n 3, 1) := by decide +kernel
theorem dX5_sleepersOf_5 : decode cX5_sleepersOf 5 = .ok (.aload_n 0, 1) := by decide +kernel
theorem dX5_sleepersOf_6 : decode cX5_sleepersOf 6 = .ok (.getfield 37, 3) := by decide +kernel
theorem dX5_sleepersOf_9 : decode cX5_sleepersOf 9 = .ok (.if_icmp .ge 25, 3) := by decide +kernel
theorem dX5_sleepersOf_12 : decode cX5_sleepersOf 12 = .ok (.aload_n 0, 1) := by decide +kernel
theorem dX5_sleepersOf_13 : decode cX5_sleepersOf 13 = .ok (.getfield 21, 3) := by decide +kernel
theorem dX5_sleepersOf_16 : decode cX5_sleepersOf 16 = .ok (.iload_n 3, 1) := by decide +kernel
theorem dX5_sleepersOf_17 : decode cX5_sleepersOf 17 = .ok (.iaload, 1) := by decide +kernel
theorem dX5_sleepersOf_18 : decode cX5_sleepersOf 18 = .ok (.iload_n 1, 1) := by decide +kernel
theorem dX5_sleepersOf_19 : decode cX5_sleepersOf 19 = .ok (.if_icmp .ne 9, 3) := by decide +kernel
theorem dX5_sleepersOf_22 : decode cX5_sleepersOf 22 = .ok (.iload_n 2, 1) := by decide +kernel
theorem dX5_sleepersOf_23 : decode cX5_sleepersOf 23 = .ok (.iconst 1, 1) := by decide +kernel
theorem dX5_sleepersOf_24 : decode cX5_sleepersOf 24 = .ok (.iload_n 3, 1) := by decide +kernel
theorem dX5_sleepersOf_25 : decode cX5_sleepersOf 25 = .ok (.ishl, 1) := by decide +kernel
theorem dX5_sleepersOf_26 : decode cX5_sleepersOf 26 = .ok (.ior, 1) := by decide +kernel
theorem dX5_sleepersOf_27 : decode cX5_sleepersOf 27 = .ok (.istore_n 2, 1) := by decide +kernel
theorem dX5_sleepersOf_28 : decode cX5_sleepersOf 28 = .ok (.iinc 3 1, 3) := by decide +kernel
theorem dX5_sleepersOf_31 : decode cX5_sleepersOf 31 = .ok (.goto (-27), 3) := by decide +kernel
theorem dX5_sleepersOf_34 : decode cX5_sleepersOf 34 = .ok (.iload_n 2, 1) := by decide +kernel
theorem dX5_sleepersOf_35 : decode cX5_sleepersOf 35 = .ok (.ireturn, 1) := by decide +kernel
theorem dX5_copyFrom_0 : decode cX5_copyFrom 0 = .ok (.aload_n 0, 1) := by decide +kernel
theorem dX5_copyFrom_1 : decode cX5_copyFrom 1 = .ok (.aload_n 1, 1) := by decide +kernel
theorem dX5_copyFrom_2 : decode cX5_copyFrom 2 = .ok (.getfield 33, 3) := by decide +kernel
theorem dX5_copyFrom_5 : decode cX5_copyFrom 5 = .ok (.putfield 33, 3) := by decide +kernel
theorem dX5_copyFrom_8 : decode cX5_copyFrom 8 = .ok (.aload_n 1, 1) := by decide +kernel
theorem dX5_copyFrom_9 : decode cX5_copyFrom 9 = .ok (.getfield 9, 3) := by decide +kernel
theorem dX5_copyFrom_12 : decode cX5_copyFrom 12 = .ok (.iconst 0, 1) := by decide +kernel
theorem dX5_copyFrom_13 : decode cX5_copyFrom 13 = .ok (.aload_n 0, 1) := by decide +kernel
theorem dX5_copyFrom_14 : decode cX5_copyFrom 14 = .ok (.getfield 9, 3) := by decide +kernel
theorem dX5_copyFrom_17 : decode cX5_copyFrom 17 = .ok (.iconst 0, 1) := by decide +kernel
theorem dX5_copyFrom_18 : decode cX5_copyFrom 18 = .ok (.iconst 5, 1) := by decide +kernel
theorem dX5_copyFrom_19 : decode cX5_copyFrom 19 = .ok (.invokestatic 40, 3) := by decide +kernel
theorem dX5_copyFrom_22 : decode cX5_copyFrom 22 = .ok (.aload_n 1, 1) := by decide +kernel
theorem dX5_copyFrom_23 : decode cX5_copyFrom 23 = .ok (.getfield 15, 3) := by decide +kernel
theorem dX5_copyFrom_26 : decode cX5_copyFrom 26 = .ok (.iconst 0, 1) := by decide +kernel
theorem dX5_copyFrom_27 : decode cX5_copyFrom 27 = .ok (.aload_n 0, 1) := by decide +kernel
theorem dX5_copyFrom_28 : decode cX5_copyFrom 28 = .ok (.getfield 15, 3) := by decide +kernel
theorem dX5_copyFrom_31 : decode cX5_copyFrom 31 = .ok (.iconst 0, 1) := by decide +kernel
theorem dX5_copyFrom_32 : decode cX5_copyFrom 32 = .ok (.iconst 5, 1) := by decide +kernel
theorem dX5_copyFrom_33 : decode cX5_copyFrom 33 = .ok (.invokestatic 40, 3) := by decide +kernel
theorem dX5_copyFrom_36 : decode cX5_copyFrom 36 = .ok (.aload_n 1, 1) := by decide +kernel
theorem dX5_copyFrom_37 : decode cX5_copyFrom 37 = .ok (.getfield 18, 3) := by decide +kernel
theorem dX5_copyFrom_40 : decode cX5_copyFrom 40 = .ok (.iconst 0, 1) := by decide +kernel
theorem dX5_copyFrom_41 : decode cX5_copyFrom 41 = .ok (.aload_n 0, 1) := by decide +kernel
theorem dX5_copyFrom_42 : decode cX5_copyFrom 42 = .ok (.getfield 18, 3) := by decide +kernel
theorem dX5_copyFrom_45 : decode cX5_copyFrom 45 = .ok (.iconst 0, 1) := by decide +kernel
theorem dX5_copyFrom_46 : decode cX5_copyFrom 46 = .ok (.iconst 5, 1) := by decide +kernel
theorem dX5_copyFrom_47 : decode cX5_copyFrom 47 = .ok (.invokestatic 40, 3) := by decide +kernel
theorem dX5_copyFrom_50 : decode cX5_copyFrom 50 = .ok (.aload_n 0, 1) := by decide +kernel
theorem dX5_copyFrom_51 : decode cX5_copyFrom 51 = .ok (.aload_n 1, 1) := by decide +kernel
theorem dX5_copyFrom_52 : decode cX5_copyFrom 52 = .ok (.getfield 37, 3) := by decide +kernel
theorem dX5_copyFrom_55 : decode cX5_copyFrom 55 = .ok (.putfield 37, 3) := by decide +kernel
theorem dX5_copyFrom_58 : decode cX5_copyFrom 58 = .ok (.aload_n 1, 1) := by decide +kernel
theorem dX5_copyFrom_59 : decode cX5_copyFrom 59 = .ok (.getfield 21, 3) := by decide +kernel
theorem dX5_copyFrom_62 : decode cX5_copyFrom 62 = .ok (.iconst 0, 1) := by decide +kernel
theorem dX5_copyFrom_63 : decode cX5_copyFrom 63 = .ok (.aload_n 0, 1) := by decide +kernel
theorem dX5_copyFrom_64 : decode cX5_copyFrom 64 = .ok (.getfield 21, 3) := by decide +kernel
theorem dX5_copyFrom_67 : decode cX5_copyFrom 67 = .ok (.iconst 0, 1) := by decide +kernel
theorem dX5_copyFrom_68 : decode cX5_copyFrom 68 = .ok (.bipush 8, 2) := by decide +kernel
theorem dX5_copyFrom_70 : decode cX5_copyFrom 70 = .ok (.invokestatic 40, 3) := by decide +kernel
theorem dX5_copyFrom_73 : decode cX5_copyFrom 73 = .ok (.aload_n 1, 1) := by decide +kernel
theorem dX5_copyFrom_74 : decode cX5_copyFrom 74 = .ok (.getfield 24, 3) := by decide +kernel
theorem dX5_copyFrom_77 : decode cX5_copyFrom 77 = .ok (.iconst 0, 1) := by decide +kernel
theorem dX5_copyFrom_78 : decode cX5_copyFrom 78 = .ok (.aload_n 0, 1) := by decide +kernel
theorem dX5_copyFrom_79 : decode cX5_copyFrom 79 = .ok (.getfield 24, 3) := by decide +kernel
theorem dX5_copyFrom_82 : decode cX5_copyFrom 82 = .ok (.iconst 0, 1) := by decide +kernel
theorem dX5_copyFrom_83 : decode cX5_copyFrom 83 = .ok (.bipush 8, 2) := by decide +kernel
theorem dX5_copyFrom_85 : decode cX5_copyFrom 85 = .ok (.invokestatic 40, 3) := by decide +kernel
theorem dX5_copyFrom_88 : decode cX5_copyFrom 88 = .ok (.aload_n 1, 1) := by decide +kernel
theorem dX5_copyFrom_89 : decode cX5_copyFrom 89 = .ok (.getfield 27, 3) := by decide +kernel
theorem dX5_copyFrom_92 : decode cX5_copyFrom 92 = .ok (.iconst 0, 1) := by decide +kernel
theorem dX5_copyFrom_93 : decode cX5_copyFrom 93 = .ok (.aload_n 0, 1) := by decide +kernel
theorem dX5_copyFrom_94 : decode cX5_copyFrom 94 = .ok (.getfield 27, 3) := by decide +kernel
theorem dX5_copyFrom_97 : decode cX5_copyFrom 97 = .ok (.iconst 0, 1) := by decide +kernel
theorem dX5_copyFrom_98 : decode cX5_copyFrom 98 = .ok (.bipush 8, 2) := by decide +kernel
theorem dX5_copyFrom_100 : decode cX5_copyFrom 100 = .ok (.invokestatic 40, 3) := by decide +kernel
theorem dX5_copyFrom_103 : decode cX5_copyFrom 103 = .ok (.aload_n 1, 1) := by decide +kernel
theorem dX5_copyFrom_104 : decode cX5_copyFrom 104 = .ok (.getfield 30, 3) := by decide +kernel
theorem dX5_copyFrom_107 : decode cX5_copyFrom 107 = .ok (.iconst 0, 1) := by decide +kernel
theorem dX5_copyFrom_108 : decode cX5_copyFrom 108 = .ok (.aload_n 0, 1) := by decide +kernel
theorem dX5_copyFrom_109 : decode cX5_copyFrom 109 = .ok (.getfield 30, 3) := by decide +kernel
theorem dX5_copyFrom_112 : decode cX5_copyFrom 112 = .ok (.iconst 0, 1) := by decide +kernel
theorem dX5_copyFrom_113 : decode cX5_copyFrom 113 = .ok (.bipush 8, 2) := by decide +kernel
theorem dX5_copyFrom_115 : decode cX5_copyFrom 115 = .ok (.invokestatic 40, 3) := by decide +kernel
theorem dX5_copyFrom_118 : decode cX5_copyFrom 118 = .ok (.return_, 1) := by decide +kernel
theorem dX6_init_0 : decode cX6_init 0 = .ok (.aload_n 0, 1) := by decide +kernel
theorem dX6_init_1 : decode cX6_init 1 = .ok (.invokespecial 3, 3) := by decide +kernel
theorem dX6_init_4 : decode cX6_init 4 = .ok (.aload_n 0, 1) := by decide +kernel
theorem dX6_init_5 : decode cX6_init 5 = .ok (.bipush 40, 2) := by decide +kernel
theorem dX6_init_7 : decode cX6_init 7 = .ok (.newarray .int, 2) := by decide +kernel
theorem dX6_init_9 : decode cX6_init 9 = .ok (.putfield 9, 3) := by decide +kernel
theorem dX6_init_12 : decode cX6_init 12 = .ok (.aload_n 0, 1) := by decide +kernel
theorem dX6_init_13 : decode cX6_init 13 = .ok (.bipush 40, 2) := by decide +kernel
theorem dX6_init_15 : decode cX6_init 15 = .ok (.newarray .int, 2) := by decide +kernel
theorem dX6_init_17 : decode cX6_init 17 = .ok (.putfield 15, 3) := by decide +kernel
theorem dX6_init_20 : decode cX6_init 20 = .ok (.aload_n 0, 1) := by decide +kernel
theorem dX6_init_21 : decode cX6_init 21 = .ok (.new 18, 3) := by decide +kernel
theorem dX6_init_24 : decode cX6_init 24 = .ok (.dup, 1) := by decide +kernel
theorem dX6_init_25 : decode cX6_init 25 = .ok (.aload_n 1, 1) := by decide +kernel
theorem dX6_init_26 : decode cX6_init 26 = .ok (.invokespecial 20, 3) := by decide +kernel
theorem dX6_init_29 : decode cX6_init 29 = .ok (.putfield 23, 3) := by decide +kernel
theorem dX6_init_32 : decode cX6_init 32 = .ok (.return_, 1) := by decide +kernel
theorem dX6_add_0 : decode cX6_add 0 = .ok (.aload_n 0, 1) := by decide +kernel
theorem dX6_add_1 : decode cX6_add 1 = .ok (.getfield 27, 3) := by decide +kernel
theorem dX6_add_4 : decode cX6_add 4 = .ok (.bipush 40, 2) := by decide +kernel
theorem dX6_add_6 : decode cX6_add 6 = .ok (.if_icmp .lt 5, 3) := by decide +kernel
theorem dX6_add_9 : decode cX6_add 9 = .ok (.iconst 0, 1) := by decide +kernel
theorem dX6_add_10 : decode cX6_add 10 = .ok (.ireturn, 1) := by decide +kernel
theorem dX6_add_11 : decode cX6_add 11 = .ok (.aload_n 0, 1) := by decide +kernel
theorem dX6_add_12 : decode cX6_add 12 = .ok (.getfield 9, 3) := by decide +kernel
theorem dX6_add_15 : decode cX6_add 15 = .ok (.aload_n 0, 1) := by decide +kernel
theorem dX6_add_16 : decode cX6_add 16 = .ok (.getfield 27, 3) := by decide +kernel
theorem dX6_add_19 : decode cX6_add 19 = .ok (.iload_n 1, 1) := by decide +kernel
theorem dX6_add_20 : decode cX6_add 20 = .ok (.iastore, 1) := by decide +kernel
theorem dX6_add_21 : decode cX6_add 21 = .ok (.aload_n 0, 1) := by decide +kernel
theorem dX6_add_22 : decode cX6_add 22 = .ok (.getfield 15, 3) := by decide +kernel
theorem dX6_add_25 : decode cX6_add 25 = .ok (.aload_n 0, 1) := by decide +kernel
theorem dX6_add_26 : decode cX6_add 26 = .ok (.getfield 27, 3) := by decide +kernel
theorem dX6_add_29 : decode cX6_add 29 = .ok (.iload_n 2, 1) := by decide +kernel
theorem dX6_add_30 : decode cX6_add 30 = .ok (.iastore, 1) := by decide +kernel
theorem dX6_add_31 : decode cX6_add 31 = .ok (.aload_n 0, 1) := by decide +kernel
theorem dX6_add_32 : decode cX6_add 32 = .ok (.dup, 1) := by decide +kernel
theorem dX6_add_33 : decode cX6_add 33 = .ok (.getfield 27, 3) := by decide +kernel
theorem dX6_add_36 : decode cX6_add 36 = .ok (.iconst 1, 1) := by decide +kernel
theorem dX6_add_37 : decode cX6_add 37 = .ok (.iadd, 1) := by decide +kernel
theorem dX6_add_38 : decode cX6_add 38 = .ok (.putfield 27, 3) := by decide +kernel
theorem dX6_add_41 : decode cX6_add 41 = .ok (.iconst 1, 1) := by decide +kernel
theorem dX6_add_42 : decode cX6_add 42 = .ok (.ireturn, 1) := by decide +kernel
theorem dX6_firstLie_0 : decode cX6_firstLie 0 = .ok (.iconst 0, 1) := by decide +kernel
theorem dX6_firstLie_1 : decode cX6_firstLie 1 = .ok (.istore_n 2, 1) := by decide +kernel
theorem dX6_firstLie_2 : decode cX6_firstLie 2 = .ok (.iload_n 2, 1) := by decide +kernel
theorem dX6_firstLie_3 : decode cX6_firstLie 3 = .ok (.aload_n 0, 1) := by decide +kernel
theorem dX6_firstLie_4 : decode cX6_firstLie 4 = .ok (.getfield 27, 3) := by decide +kernel
theorem dX6_firstLie_7 : decode cX6_firstLie 7 = .ok (.if_icmp .ge 30, 3) := by decide +kernel
theorem dX6_firstLie_10 : decode cX6_firstLie 10 = .ok (.aload_n 1, 1) := by decide +kernel
theorem dX6_firstLie_11 : decode cX6_firstLie 11 = .ok (.aload_n 0, 1) := by decide +kernel
theorem dX6_firstLie_12 : decode cX6_firstLie 12 = .ok (.getfield 9, 3) := by decide +kernel
theorem dX6_firstLie_15 : decode cX6_firstLie 15 = .ok (.iload_n 2, 1) := by decide +kernel
theorem dX6_firstLie_16 : decode cX6_firstLie 16 = .ok (.iaload, 1) := by decide +kernel
theorem dX6_firstLie_17 : decode cX6_firstLie 17 = .ok (.aload_n 0, 1) := by decide +kernel
theorem dX6_firstLie_18 : decode cX6_firstLie 18 = .ok (.getfield 15, 3) := by decide +kernel
theorem dX6_firstLie_21 : decode cX6_firstLie 21 = .ok (.iload_n 2, 1) := by decide +kernel
theorem dX6_firstLie_22 : decode cX6_firstLie 22 = .ok (.iaload, 1) := by decide +kernel
theorem dX6_firstLie_23 : decode cX6_firstLie 23 = .ok (.invokevirtual 31, 3) := by decide +kernel
theorem dX6_firstLie_26 : decode cX6_firstLie 26 = .ok (.ifCond .ne 5, 3) := by decide +kernel
theorem dX6_firstLie_29 : decode cX6_firstLie 29 = .ok (.iload_n 2, 1) := by decide +kernel
theorem dX6_firstLie_30 : decode cX6_firstLie 30 = .ok (.ireturn, 1) := by decide +kernel
theorem dX6_firstLie_31 : decode cX6_firstLie 31 = .ok (.iinc 2 1, 3) := by decide +kernel
theorem dX6_firstLie_34 : decode cX6_firstLie 34 = .ok (.goto (-32), 3) := by decide +kernel
theorem dX6_firstLie_37 : decode cX6_firstLie 37 = .ok (.iconst (-1), 1) := by decide +kernel
theorem dX6_firstLie_38 : decode cX6_firstLie 38 = .ok (.ireturn, 1) := by decide +kernel
theorem dX6_fitting_0 : decode cX6_fitting 0 = .ok (.aload_n 0, 1) := by decide +kernel
theorem dX6_fitting_1 : decode cX6_fitting 1 = .ok (.getfield 23, 3) := by decide +kernel
theorem dX6_fitting_4 : decode cX6_fitting 4 = .ok (.aload_n 1, 1) := by decide +kernel
theorem dX6_fitting_5 : decode cX6_fitting 5 = .ok (.invokevirtual 35, 3) := by decide +kernel
theorem dX6_fitting_8 : decode cX6_fitting 8 = .ok (.iconst 0, 1) := by decide +kernel
theorem dX6_fitting_9 : decode cX6_fitting 9 = .ok (.istore 4, 2) := by decide +kernel
theorem dX6_fitting_11 : decode cX6_fitting 11 = .ok (.iconst 0, 1) := by decide +kernel
theorem dX6_fitting_12 : decode cX6_fitting 12 = .ok (.istore 5, 2) := by decide +kernel
theorem dX6_fitting_14 : decode cX6_fitting 14 = .ok (.iload 5, 2) := by decide +kernel
theorem dX6_fitting_16 : decode cX6_fitting 16 = .ok (.bipush 60, 2) := by decide +kernel
theorem dX6_fitting_18 : decode cX6_fitting 18 = .ok (.if_icmp .gt 53, 3) := by decide +kernel
theorem dX6_fitting_21 : decode cX6_fitting 21 = .ok (.iload 5, 2) := by decide +kernel
theorem dX6_fitting_23 : decode cX6_fitting 23 = .ok (.aload_n 1, 1) := by decide +kernel
theorem dX6_fitting_24 : decode cX6_fitting 24 = .ok (.getfield 39, 3) := by decide +kernel
theorem dX6_fitting_27 : decode cX6_fitting 27 = .ok (.iload_n 2, 1) := by decide +kernel
theorem dX6_fitting_28 : decode cX6_fitting 28 = .ok (.iaload, 1) := by decide +kernel
theorem dX6_fitting_29 : decode cX6_fitting 29 = .ok (.if_icmp .ne 6, 3) := by decide +kernel
theorem dX6_fitting_32 : decode cX6_fitting 32 = .ok (.goto 33, 3) := by decide +kernel
theorem dX6_fitting_35 : decode cX6_fitting 35 = .ok (.aload_n 0, 1) := by decide +kernel
theorem dX6_fitting_36 : decode cX6_fitting 36 = .ok (.getfield 23, 3) := by decide +kernel
theorem dX6_fitting_39 : decode cX6_fitting 39 = .ok (.iload_n 2, 1) := by decide +kernel
theorem dX6_fitting_40 : decode cX6_fitting 40 = .ok (.iload 5, 2) := by decide +kernel
theorem dX6_fitting_42 : decode cX6_fitting 42 = .ok (.invokevirtual 42, 3) := by decide +kernel
theorem dX6_fitting_45 : decode cX6_fitting 45 = .ok (.aload_n 0, 1) := by decide +kernel
theorem dX6_fitting_46 : decode cX6_fitting 46 = .ok (.iload_n 2, 1) := by decide +kernel
theorem dX6_fitting_47 : decode cX6_fitting 47 = .ok (.invokevirtual 46, 3) := by decide +kernel
theorem dX6_fitting_50 : decode cX6_fitting 50 = .ok (.ifCond .eq 15, 3) := by decide +kernel
theorem dX6_fitting_53 : decode cX6_fitting 53 = .ok (.iload 4, 2) := by decide +kernel
theorem dX6_fitting_55 : decode cX6_fitting 55 = .ok (.iload_n 3, 1) := by decide +kernel
theorem dX6_fitting_56 : decode cX6_fitting 56 = .ok (.if_icmp .ne 6, 3) := by decide +kernel
theorem dX6_fitting_59 : decode cX6_fitting 59 = .ok (.iload 5, 2) := by decide +kernel
theorem dX6_fitting_61 : decode cX6_fitting 61 = .ok (.ireturn, 1) := by decide +kernel
theorem dX6_fitting_62 : decode cX6_fitting 62 = .ok (.iinc 4 1, 3) := by decide +kernel
theorem dX6_fitting_65 : decode cX6_fitting 65 = .ok (.iinc 5 1, 3) := by decide +kernel
theorem dX6_fitting_68 : decode cX6_fitting 68 = .ok (.goto (-54), 3) := by decide +kernel
theorem dX6_fitting_71 : decode cX6_fitting 71 = .ok (.iload_n 3, 1) := by decide +kernel
theorem dX6_fitting_72 : decode cX6_fitting 72 = .ok (.iconst (-1), 1) := by decide +kernel
theorem dX6_fitting_73 : decode cX6_fitting 73 = .ok (.if_icmp .ne 8, 3) := by decide +kernel
theorem dX6_fitting_76 : decode cX6_fitting 76 = .ok (.iload 4, 2) := by decide +kernel
theorem dX6_fitting_78 : decode cX6_fitting 78 = .ok (.goto 4, 3) := by decide +kernel
theorem dX6_fitting_81 : decode cX6_fitting 81 = .ok (.iconst (-1), 1) := by decide +kernel
theorem dX6_fitting_82 : decode cX6_fitting 82 = .ok (.ireturn, 1) := by decide +kernel
theorem dX6_allTrueOf_0 : decode cX6_allTrueOf 0 = .ok (.iconst 0, 1) := by decide +kernel
theorem dX6_allTrueOf_1 : decode cX6_allTrueOf 1 = .ok (.istore_n 2, 1) := by decide +kernel
theorem dX6_allTrueOf_2 : decode cX6_allTrueOf 2 = .ok (.iload_n 2, 1) := by decide +kernel
theorem dX6_allTrueOf_3 : decode cX6_allTrueOf 3 = .ok (.aload_n 0, 1) := by decide +kernel
theorem dX6_allTrueOf_4 : decode cX6_allTrueOf 4 = .ok (.getfield 27, 3) := by decide +kernel
theorem dX6_allTrueOf_7 : decode cX6_allTrueOf 7 = .ok (.if_icmp .ge 38, 3) := by decide +kernel
theorem dX6_allTrueOf_10 : decode cX6_allTrueOf 10 = .ok (.aload_n 0, 1) := by decide +kernel
theorem dX6_allTrueOf_11 : decode cX6_allTrueOf 11 = .ok (.getfield 9, 3) := by decide +kernel
theorem dX6_allTrueOf_14 : decode cX6_allTrueOf 14 = .ok (.iload_n 2, 1) := by decide +kernel
theorem dX6_allTrueOf_15 : decode cX6_allTrueOf 15 = .ok (.iaload, 1) := by decide +kernel
theorem dX6_allTrueOf_16 : decode cX6_allTrueOf 16 = .ok (.iload_n 1, 1) := by decide +kernel
theorem dX6_allTrueOf_17 : decode cX6_allTrueOf 17 = .ok (.if_icmp .ne 22, 3) := by decide +kernel
theorem dX6_allTrueOf_20 : decode cX6_allTrueOf 20 = .ok (.aload_n 0, 1) := by decide +kernel
theorem dX6_allTrueOf_21 : decode cX6_allTrueOf 21 = .ok (.getfield 23, 3) := by decide +kernel
theorem dX6_allTrueOf_24 : decode cX6_allTrueOf 24 = .ok (.iload_n 1, 1) := by decide +kernel
theorem dX6_allTrueOf_25 : decode cX6_allTrueOf 25 = .ok (.aload_n 0, 1) := by decide +kernel
theorem dX6_allTrueOf_26 : decode cX6_allTrueOf 26 = .ok (.getfield 15, 3) := by decide +kernel
theorem dX6_allTrueOf_29 : decode cX6_allTrueOf 29 = .ok (.iload_n 2, 1) := by decide +kernel
theorem dX6_allTrueOf_30 : decode cX6_allTrueOf 30 = .ok (.iaload, 1) := by decide +kernel
theorem dX6_allTrueOf_31 : decode cX6_allTrueOf 31 = .ok (.invokevirtual 31, 3) := by decide +kernel
theorem dX6_allTrueOf_34 : decode cX6_allTrueOf 34 = .ok (.ifCond .ne 5, 3) := by decide +kernel
theorem dX6_allTrueOf_37 : decode cX6_allTrueOf 37 = .ok (.iconst 0, 1) := by decide +kernel
theorem dX6_allTrueOf_38 : decode cX6_allTrueOf 38 = .ok (.ireturn, 1) := by decide +kernel
theorem dX6_allTrueOf_39 : decode cX6_allTrueOf 39 = .ok (.iinc 2 1, 3) := by decide +kernel
theorem dX6_allTrueOf_42 : decode cX6_allTrueOf 42 = .ok (.goto (-40), 3) := by decide +kernel
theorem dX6_allTrueOf_45 : decode cX6_allTrueOf 45 = .ok (.iconst 1, 1) := by decide +kernel
theorem dX6_allTrueOf_46 : decode cX6_allTrueOf 46 = .ok (.ireturn, 1) := by decide +kernel
theorem dX7_init_0 : decode cX7_init 0 = .ok (.aload_n 0, 1) := by decide +kernel
theorem dX7_init_1 : decode cX7_init 1 = .ok (.invokespecial 1, 3) := by decide +kernel
theorem dX7_init_4 : decode cX7_init 4 = .ok (.aload_n 0, 1) := by decide +kernel
theorem dX7_init_5 : decode cX7_init 5 = .ok (.new 7, 3) := by decide +kernel
theorem dX7_init_8 : decode cX7_init 8 = .ok (.dup, 1) := by decide +kernel
theorem dX7_init_9 : decode cX7_init 9 = .ok (.invokespecial 9, 3) := by decide +kernel
theorem dX7_init_12 : decode cX7_init 12 = .ok (.putfield 10, 3) := by decide +kernel
theorem dX7_init_15 : decode cX7_init 15 = .ok (.aload_n 0, 1) := by decide +kernel
theorem dX7_init_16 : decode cX7_init 16 = .ok (.new 16, 3) := by decide +kernel
theorem dX7_init_19 : decode cX7_init 19 = .ok (.dup, 1) := by decide +kernel
theorem dX7_init_20 : decode cX7_init 20 = .ok (.invokespecial 18, 3) := by decide +kernel
theorem dX7_init_23 : decode cX7_init 23 = .ok (.putfield 19, 3) := by decide +kernel
theorem dX7_init_26 : decode cX7_init 26 = .ok (.aload_n 0, 1) := by decide +kernel
theorem dX7_init_27 : decode cX7_init 27 = .ok (.new 23, 3) := by decide +kernel
theorem dX7_init_30 : decode cX7_init 30 = .ok (.dup, 1) := by decide +kernel
theorem dX7_init_31 : decode cX7_init 31 = .ok (.aload_n 0, 1) := by decide +kernel
theorem dX7_init_32 : decode cX7_init 32 = .ok (.getfield 19, 3) := by decide +kernel
theorem dX7_init_35 : decode cX7_init 35 = .ok (.invokespecial 25, 3) := by decide +kernel
theorem dX7_init_38 : decode cX7_init 38 = .ok (.putfield 28, 3) := by decide +kernel
theorem dX7_init_41 : decode cX7_init 41 = .ok (.aload_n 0, 1) := by decide +kernel
theorem dX7_init_42 : decode cX7_init 42 = .ok (.new 23, 3) := by decide +kernel
theorem dX7_init_45 : decode cX7_init 45 = .ok (.dup, 1) := by decide +kernel
theorem dX7_init_46 : decode cX7_init 46 = .ok (.aload_n 0, 1) := by decide +kernel
theorem dX7_init_47 : decode cX7_init 47 = .ok (.getfield 19, 3) := by decide +kernel
theorem dX7_init_50 : decode cX7_init 50 = .ok (.invokespecial 25, 3) := by decide +kernel
theorem dX7_init_53 : decode cX7_init 53 = .ok (.putfield 32, 3) := by decide +kernel
theorem dX7_init_56 : decode cX7_init 56 = .ok (.aload_n 0, 1) := by decide +kernel
theorem dX7_init_57 : decode cX7_init 57 = .ok (.new 23, 3) := by decide +kernel
theorem dX7_init_60 : decode cX7_init 60 = .ok (.dup, 1) := by decide +kernel
theorem dX7_init_61 : decode cX7_init 61 = .ok (.aload_n 0, 1) := by decide +kernel
theorem dX7_init_62 : decode cX7_init 62 = .ok (.getfield 19, 3) := by decide +kernel
theorem dX7_init_65 : decode cX7_init 65 = .ok (.invokespecial 25, 3) := by decide +kernel
theorem dX7_init_68 : decode cX7_init 68 = .ok (.putfield 35, 3) := by decide +kernel
theorem dX7_init_71 : decode cX7_init 71 = .ok (.aload_n 0, 1) := by decide +kernel
theorem dX7_init_72 : decode cX7_init 72 = .ok (.new 38, 3) := by decide +kernel
theorem dX7_init_75 : decode cX7_init 75 = .ok (.dup, 1) := by decide +kernel
theorem dX7_init_76 : decode cX7_init 76 = .ok (.aload_n 0, 1) := by decide +kernel
theorem dX7_init_77 : decode cX7_init 77 = .ok (.getfield 19, 3) := by decide +kernel
theorem dX7_init_80 : decode cX7_init 80 = .ok (.invokespecial 40, 3) := by decide +kernel
theorem dX7_init_83 : decode cX7_init 83 = .ok (.putfield 41, 3) := by decide +kernel
theorem dX7_init_86 : decode cX7_init 86 = .ok (.aload_n 0, 1) := by decide +kernel
theorem dX7_init_87 : decode cX7_init 87 = .ok (.new 45, 3) := by decide +kernel
theorem dX7_init_90 : decode cX7_init 90 = .ok (.dup, 1) := by decide +kernel
theorem dX7_init_91 : decode cX7_init 91 = .ok (.aload_n 0, 1) := by decide +kernel
theorem dX7_init_92 : decode cX7_init 92 = .ok (.getfield 19, 3) := by decide +kernel
theorem dX7_init_95 : decode cX7_init 95 = .ok (.invokespecial 47, 3) := by decide +kernel
theorem dX7_init_98 : decode cX7_init 98 = .ok (.putfield 48, 3) := by decide +kernel
theorem dX7_init_101 : decode cX7_init 101 = .ok (.aload_n 0, 1) := by decide +kernel
theorem dX7_init_102 : decode cX7_init 102 = .ok (.new 52, 3) := by decide +kernel
theorem dX7_init_105 : decode cX7_init 105 = .ok (.dup, 1) := by decide +kernel
theorem dX7_init_106 : decode cX7_init 106 = .ok (.invokespecial 54, 3) := by decide +kernel
theorem dX7_init_109 : decode cX7_init 109 = .ok (.putfield 55, 3) := by decide +kernel
theorem dX7_init_112 : decode cX7_init 112 = .ok (.return_, 1) := by decide +kernel
theorem dX7_feed_0 : decode cX7_feed 0 = .ok (.iload_n 1, 1) := by decide +kernel
theorem dX7_feed_1 : decode cX7_feed 1 = .ok (.iconst 1, 1) := by decide +kernel
theorem dX7_feed_2 : decode cX7_feed 2 = .ok (.if_icmp .lt 9, 3) := by decide +kernel
theorem dX7_feed_5 : decode cX7_feed 5 = .ok (.iload_n 1, 1) := by decide +kernel
theorem dX7_feed_6 : decode cX7_feed 6 = .ok (.bipush 8, 2) := by decide +kernel
theorem dX7_feed_8 : decode cX7_feed 8 = .ok (.if_icmp .le 6, 3) := by decide +kernel
theorem dX7_feed_11 : decode cX7_feed 11 = .ok (.ldc 59, 2) := by decide +kernel
theorem dX7_feed_13 : decode cX7_feed 13 = .ok (.ireturn, 1) := by decide +kernel
theorem dX7_feed_14 : decode cX7_feed 14 = .ok (.aload_n 0, 1) := by decide +kernel
theorem dX7_feed_15 : decode cX7_feed 15 = .ok (.getfield 10, 3) := by decide +kernel
theorem dX7_feed_18 : decode cX7_feed 18 = .ok (.iload_n 1, 1) := by decide +kernel
theorem dX7_feed_19 : decode cX7_feed 19 = .ok (.lload_n 2, 1) := by decide +kernel
theorem dX7_feed_20 : decode cX7_feed 20 = .ok (.invokevirtual 60, 3) := by decide +kernel
theorem dX7_feed_23 : decode cX7_feed 23 = .ok (.ifCond .eq 13, 3) := by decide +kernel
theorem dX7_feed_26 : decode cX7_feed 26 = .ok (.aload_n 0, 1) := by decide +kernel
theorem dX7_feed_27 : decode cX7_feed 27 = .ok (.getfield 10, 3) := by decide +kernel
theorem dX7_feed_30 : decode cX7_feed 30 = .ok (.getfield 64, 3) := by decide +kernel
theorem dX7_feed_33 : decode cX7_feed 33 = .ok (.goto 5, 3) := by decide +kernel
theorem dX7_feed_36 : decode cX7_feed 36 = .ok (.ldc 68, 2) := by decide +kernel
theorem dX7_feed_38 : decode cX7_feed 38 = .ok (.ireturn, 1) := by decide +kernel
theorem dX7_valley_0 : decode cX7_valley 0 = .ok (.aload_n 0, 1) := by decide +kernel
theorem dX7_valley_1 : decode cX7_valley 1 = .ok (.getfield 10, 3) := by decide +kernel
theorem dX7_valley_4 : decode cX7_valley 4 = .ok (.invokevirtual 69, 3) := by decide +kernel
theorem dX7_valley_7 : decode cX7_valley 7 = .ok (.istore_n 1, 1) := by decide +kernel
theorem dX7_valley_8 : decode cX7_valley 8 = .ok (.iload_n 1, 1) := by decide +kernel
theorem dX7_valley_9 : decode cX7_valley 9 = .ok (.ifCond .eq 8, 3) := by decide +kernel
theorem dX7_valley_12 : decode cX7_valley 12 = .ok (.bipush (-10), 2) := by decide +kernel
theorem dX7_valley_14 : decode cX7_valley 14 = .ok (.iload_n 1, 1) := by decide +kernel
theorem dX7_valley_15 : decode cX7_valley 15 = .ok (.isub, 1) := by decide +kernel
theorem dX7_valley_16 : decode cX7_valley 16 = .ok (.ireturn, 1) := by decide +kernel
theorem dX7_valley_17 : decode cX7_valley 17 = .ok (.aload_n 0, 1) := by decide +kernel
theorem dX7_valley_18 : decode cX7_valley 18 = .ok (.getfield 19, 3) := by decide +kernel
theorem dX7_valley_21 : decode cX7_valley 21 = .ok (.aload_n 0, 1) := by decide +kernel
theorem dX7_valley_22 : decode cX7_valley 22 = .ok (.getfield 10, 3) := by decide +kernel
theorem dX7_valley_25 : decode cX7_valley 25 = .ok (.getfield 73, 3) := by decide +kernel
theorem dX7_valley_28 : decode cX7_valley 28 = .ok (.invokevirtual 76, 3) := by decide +kernel
theorem dX7_valley_31 : decode cX7_valley 31 = .ok (.aload_n 0, 1) := by decide +kernel
theorem dX7_valley_32 : decode cX7_valley 32 = .ok (.getfield 28, 3) := by decide +kernel
theorem dX7_valley_35 : decode cX7_valley 35 = .ok (.invokevirtual 79, 3) := by decide +kernel
theorem dX7_valley_38 : decode cX7_valley 38 = .ok (.aload_n 0, 1) := by decide +kernel
theorem dX7_valley_39 : decode cX7_valley 39 = .ok (.getfield 41, 3) := by decide +kernel
theorem dX7_valley_42 : decode cX7_valley 42 = .ok (.iconst 0, 1) := by decide +kernel
theorem dX7_valley_43 : decode cX7_valley 43 = .ok (.putfield 82, 3) := by decide +kernel
theorem dX7_valley_46 : decode cX7_valley 46 = .ok (.aload_n 0, 1) := by decide +kernel
theorem dX7_valley_47 : decode cX7_valley 47 = .ok (.iconst 0, 1) := by decide +kernel
theorem dX7_valley_48 : decode cX7_valley 48 = .ok (.putfield 85, 3) := by decide +kernel
theorem dX7_valley_51 : decode cX7_valley 51 = .ok (.aload_n 0, 1) := by decide +kernel
theorem dX7_valley_52 : decode cX7_valley 52 = .ok (.getfield 19, 3) := by decide +kernel
theorem dX7_valley_55 : decode cX7_valley 55 = .ok (.getfield 88, 3) := by decide +kernel
theorem dX7_valley_58 : decode cX7_valley 58 = .ok (.ireturn, 1) := by decide +kernel
theorem dX7_fault_0 : decode cX7_fault 0 = .ok (.aload_n 0, 1) := by decide +kernel
theorem dX7_fault_1 : decode cX7_fault 1 = .ok (.getfield 10, 3) := by decide +kernel
theorem dX7_fault_4 : decode cX7_fault 4 = .ok (.getfield 91, 3) := by decide +kernel
theorem dX7_fault_7 : decode cX7_fault 7 = .ok (.ireturn, 1) := by decide +kernel
theorem dX7_told_0 : decode cX7_told 0 = .ok (.iload_n 1, 1) := by decide +kernel
theorem dX7_told_1 : decode cX7_told 1 = .ok (.tableswitch 159 0 10 #[59, 67, 75, 83, 91, 102, 113, 124, 135, 143, 151], 59) := by decide +kernel
theorem dX7_told_60 : decode cX7_told 60 = .ok (.aload_n 0, 1) := by decide +kernel
theorem dX7_told_61 : decode cX7_told 61 = .ok (.getfield 19, 3) := by decide +kernel
theorem dX7_told_64 : decode cX7_told 64 = .ok (.getfield 94, 3) := by decide +kernel
theorem dX7_told_67 : decode cX7_told 67 = .ok (.ireturn, 1) := by decide +kernel
theorem dX7_told_68 : decode cX7_told 68 = .ok (.aload_n 0, 1) := by decide +kernel
theorem dX7_told_69 : decode cX7_told 69 = .ok (.getfield 19, 3) := by decide +kernel
theorem dX7_told_72 : decode cX7_told 72 = .ok (.getfield 88, 3) := by decide +kernel
theorem dX7_told_75 : decode cX7_told 75 = .ok (.ireturn, 1) := by decide +kernel
theorem dX7_told_76 : decode cX7_told 76 = .ok (.aload_n 0, 1) := by decide +kernel
theorem dX7_told_77 : decode cX7_told 77 = .ok (.getfield 10, 3) := by decide +kernel
theorem dX7_told_80 : decode cX7_told 80 = .ok (.getfield 64, 3) := by decide +kernel
theorem dX7_told_83 : decode cX7_told 83 = .ok (.ireturn, 1) := by decide +kernel
theorem dX7_told_84 : decode cX7_told 84 = .ok (.aload_n 0, 1) := by decide +kernel
theorem dX7_told_85 : decode cX7_told 85 = .ok (.getfield 28, 3) := by decide +kernel
theorem dX7_told_88 : decode cX7_told 88 = .ok (.getfield 97, 3) := by decide +kernel
theorem dX7_told_91 : decode cX7_told 91 = .ok (.ireturn, 1) := by decide +kernel
theorem dX7_told_92 : decode cX7_told 92 = .ok (.aload_n 0, 1) := by decide +kernel
theorem dX7_told_93 : decode cX7_told 93 = .ok (.getfield 28, 3) := by decide +kernel
theorem dX7_told_96 : decode cX7_told 96 = .ok (.getfield 100, 3) := by decide +kernel
theorem dX7_told_99 : decode cX7_told 99 = .ok (.getfield 104, 3) := by decide +kernel
theorem dX7_told_102 : decode cX7_told 102 = .ok (.ireturn, 1) := by decide +kernel
theorem dX7_told_103 : decode cX7_told 103 = .ok (.aload_n 0, 1) := by decide +kernel
theorem dX7_told_104 : decode cX7_told 104 = .ok (.getfield 28, 3) := by decide +kernel
theorem dX7_told_107 : decode cX7_told 107 = .ok (.getfield 100, 3) := by decide +kernel
theorem dX7_told_110 : decode cX7_told 110 = .ok (.getfield 109, 3) := by decide +kernel
theorem dX7_told_113 : decode cX7_told 113 = .ok (.ireturn, 1) := by decide +kernel
theorem dX7_told_114 : decode cX7_told 114 = .ok (.aload_n 0, 1) := by decide +kernel
theorem dX7_told_115 : decode cX7_told 115 = .ok (.getfield 28, 3) := by decide +kernel
theorem dX7_told_118 : decode cX7_told 118 = .ok (.getfield 100, 3) := by decide +kernel
theorem dX7_told_121 : decode cX7_told 121 = .ok (.getfield 112, 3) := by decide +kernel
theorem dX7_told_124 : decode cX7_told 124 = .ok (.ireturn, 1) := by decide +kernel
theorem dX7_told_125 : decode cX7_told 125 = .ok (.aload_n 0, 1) := by decide +kernel
theorem dX7_told_126 : decode cX7_told 126 = .ok (.getfield 28, 3) := by decide +kernel
theorem dX7_told_129 : decode cX7_told 129 = .ok (.getfield 100, 3) := by decide +kernel
theorem dX7_told_132 : decode cX7_told 132 = .ok (.getfield 115, 3) := by decide +kernel
theorem dX7_told_135 : decode cX7_told 135 = .ok (.ireturn, 1) := by decide +kernel
theorem dX7_told_136 : decode cX7_told 136 = .ok (.aload_n 0, 1) := by decide +kernel
theorem dX7_told_137 : decode cX7_told 137 = .ok (.getfield 28, 3) := by decide +kernel
theorem dX7_told_140 : decode cX7_told 140 = .ok (.getfield 118, 3) := by decide +kernel
theorem dX7_told_143 : decode cX7_told 143 = .ok (.ireturn, 1) := by decide +kernel
theorem dX7_told_144 : decode cX7_told 144 = .ok (.aload_n 0, 1) := by decide +kernel
theorem dX7_told_145 : decode cX7_told 145 = .ok (.getfield 28, 3) := by decide +kernel
theorem dX7_told_148 : decode cX7_told 148 = .ok (.getfield 121, 3) := by decide +kernel
theorem dX7_told_151 : decode cX7_told 151 = .ok (.ireturn, 1) := by decide +kernel
theorem dX7_told_152 : decode cX7_told 152 = .ok (.aload_n 0, 1) := by decide +kernel
theorem dX7_told_153 : decode cX7_told 153 = .ok (.getfield 41, 3) := by decide +kernel
theorem dX7_told_156 : decode cX7_told 156 = .ok (.getfield 82, 3) := by decide +kernel
theorem dX7_told_159 : decode cX7_told 159 = .ok (.ireturn, 1) := by decide +kernel
theorem dX7_told_160 : decode cX7_told 160 = .ok (.ldc 59, 2) := by decide +kernel
theorem dX7_told_162 : decode cX7_told 162 = .ok (.ireturn, 1) := by decide +kernel
theorem dX7_house_0 : decode cX7_house 0 = .ok (.aload_n 0, 1) := by decide +kernel
theorem dX7_house_1 : decode cX7_house 1 = .ok (.getfield 19, 3) := by decide +kernel
theorem dX7_house_4 : decode cX7_house 4 = .ok (.iload_n 1, 1) := by decide +kernel
theorem dX7_house_5 : decode cX7_house 5 = .ok (.invokevirtual 124, 3) := by decide +kernel
theorem dX7_house_8 : decode cX7_house 8 = .ok (.ifCond .ne 6, 3) := by decide +kernel
theorem dX7_house_11 : decode cX7_house 11 = .ok (.ldc 128, 2) := by decide +kernel
theorem dX7_house_13 : decode cX7_house 13 = .ok (.ireturn, 1) := by decide +kernel
theorem dX7_house_14 : decode cX7_house 14 = .ok (.iload_n 2, 1) := by decide +kernel
theorem dX7_house_15 : decode cX7_house 15 = .ok (.tableswitch 96 0 5 #[37, 47, 57, 67, 77, 87], 37) := by decide +kernel
theorem dX7_house_52 : decode cX7_house 52 = .ok (.aload_n 0, 1) := by decide +kernel
theorem dX7_house_53 : decode cX7_house 53 = .ok (.getfield 19, 3) := by decide +kernel
theorem dX7_house_56 : decode cX7_house 56 = .ok (.getfield 129, 3) := by decide +kernel
theorem dX7_house_59 : decode cX7_house 59 = .ok (.iload_n 1, 1) := by decide +kernel
theorem dX7_house_60 : decode cX7_house 60 = .ok (.iaload, 1) := by decide +kernel
theorem dX7_house_61 : decode cX7_house 61 = .ok (.ireturn, 1) := by decide +kernel
theorem dX7_house_62 : decode cX7_house 62 = .ok (.aload_n 0, 1) := by decide +kernel
theorem dX7_house_63 : decode cX7_house 63 = .ok (.getfield 19, 3) := by decide +kernel
theorem dX7_house_66 : decode cX7_house 66 = .ok (.getfield 133, 3) := by decide +kernel
theorem dX7_house_69 : decode cX7_house 69 = .ok (.iload_n 1, 1) := by decide +kernel
theorem dX7_house_70 : decode cX7_house 70 = .ok (.iaload, 1) := by decide +kernel
theorem dX7_house_71 : decode cX7_house 71 = .ok (.ireturn, 1) := by decide +kernel
theorem dX7_house_72 : decode cX7_house 72 = .ok (.aload_n 0, 1) := by decide +kernel
theorem dX7_house_73 : decode cX7_house 73 = .ok (.getfield 19, 3) := by decide +kernel
theorem dX7_house_76 : decode cX7_house 76 = .ok (.getfield 136, 3) := by decide +kernel
theorem dX7_house_79 : decode cX7_house 79 = .ok (.iload_n 1, 1) := by decide +kernel
theorem dX7_house_80 : decode cX7_house 80 = .ok (.iaload, 1) := by decide +kernel
theorem dX7_house_81 : decode cX7_house 81 = .ok (.ireturn, 1) := by decide +kernel
theorem dX7_house_82 : decode cX7_house 82 = .ok (.aload_n 0, 1) := by decide +kernel
theorem dX7_house_83 : decode cX7_house 83 = .ok (.getfield 28, 3) := by decide +kernel
theorem dX7_house_86 : decode cX7_house 86 = .ok (.getfield 139, 3) := by decide +kernel
theorem dX7_house_89 : decode cX7_house 89 = .ok (.iload_n 1, 1) := by decide +kernel
theorem dX7_house_90 : decode cX7_house 90 = .ok (.iaload, 1) := by decide +kernel
theorem dX7_house_91 : decode cX7_house 91 = .ok (.ireturn, 1) := by decide +kernel
theorem dX7_house_92 : decode cX7_house 92 = .ok (.aload_n 0, 1) := by decide +kernel
theorem dX7_house_93 : decode cX7_house 93 = .ok (.getfield 28, 3) := by decide +kernel
theorem dX7_house_96 : decode cX7_house 96 = .ok (.getfield 142, 3) := by decide +kernel
theorem dX7_house_99 : decode cX7_house 99 = .ok (.iload_n 1, 1) := by decide +kernel
theorem dX7_house_100 : decode cX7_house 100 = .ok (.iaload, 1) := by decide +kernel
theorem dX7_house_101 : decode cX7_house 101 = .ok (.ireturn, 1) := by decide +kernel
theorem dX7_house_102 : decode cX7_house 102 = .ok (.aload_n 0, 1) := by decide +kernel
theorem dX7_house_103 : decode cX7_house 103 = .ok (.getfield 19, 3) := by decide +kernel
theorem dX7_house_106 : decode cX7_house 106 = .ok (.iload_n 1, 1) := by decide +kernel
theorem dX7_house_107 : decode cX7_house 107 = .ok (.invokevirtual 145, 3) := by decide +kernel
theorem dX7_house_110 : decode cX7_house 110 = .ok (.ireturn, 1) := by decide +kernel
theorem dX7_house_111 : decode cX7_house 111 = .ok (.ldc 59, 2) := by decide +kernel
theorem dX7_house_113 : decode cX7_house 113 = .ok (.ireturn, 1) := by decide +kernel
theorem dX7_sleeper_0 : decode cX7_sleeper 0 = .ok (.aload_n 0, 1) := by decide +kernel
theorem dX7_sleeper_1 : decode cX7_sleeper 1 = .ok (.getfield 19, 3) := by decide +kernel
theorem dX7_sleeper_4 : decode cX7_sleeper 4 = .ok (.iload_n 1, 1) := by decide +kernel
theorem dX7_sleeper_5 : decode cX7_sleeper 5 = .ok (.invokevirtual 149, 3) := by decide +kernel
theorem dX7_sleeper_8 : decode cX7_sleeper 8 = .ok (.ifCond .ne 6, 3) := by decide +kernel
theorem dX7_sleeper_11 : decode cX7_sleeper 11 = .ok (.ldc 128, 2) := by decide +kernel
theorem dX7_sleeper_13 : decode cX7_sleeper 13 = .ok (.ireturn, 1) := by decide +kernel
theorem dX7_sleeper_14 : decode cX7_sleeper 14 = .ok (.iload_n 2, 1) := by decide +kernel
theorem dX7_sleeper_15 : decode cX7_sleeper 15 = .ok (.tableswitch 118 0 6 #[41, 51, 61, 71, 81, 94, 106], 41) := by decide +kernel
theorem dX7_sleeper_56 : decode cX7_sleeper 56 = .ok (.aload_n 0, 1) := by decide +kernel
theorem dX7_sleeper_57 : decode cX7_sleeper 57 = .ok (.getfield 19, 3) := by decide +kernel
theorem dX7_sleeper_60 : decode cX7_sleeper 60 = .ok (.getfield 152, 3) := by decide +kernel
theorem dX7_sleeper_63 : decode cX7_sleeper 63 = .ok (.iload_n 1, 1) := by decide +kernel
theorem dX7_sleeper_64 : decode cX7_sleeper 64 = .ok (.iaload, 1) := by decide +kernel
theorem dX7_sleeper_65 : decode cX7_sleeper 65 = .ok (.ireturn, 1) := by decide +kernel
theorem dX7_sleeper_66 : decode cX7_sleeper 66 = .ok (.aload_n 0, 1) := by decide +kernel
theorem dX7_sleeper_67 : decode cX7_sleeper 67 = .ok (.getfield 19, 3) := by decide +kernel
theorem dX7_sleeper_70 : decode cX7_sleeper 70 = .ok (.getfield 155, 3) := by decide +kernel
theorem dX7_sleeper_73 : decode cX7_sleeper 73 = .ok (.iload_n 1, 1) := by decide +kernel
theorem dX7_sleeper_74 : decode cX7_sleeper 74 = .ok (.iaload, 1) := by decide +kernel
theorem dX7_sleeper_75 : decode cX7_sleeper 75 = .ok (.ireturn, 1) := by decide +kernel
theorem dX7_sleeper_76 : decode cX7_sleeper 76 = .ok (.aload_n 0, 1) := by decide +kernel
theorem dX7_sleeper_77 : decode cX7_sleeper 77 = .ok (.getfield 19, 3) := by decide +kernel
theorem dX7_sleeper_80 : decode cX7_sleeper 80 = .ok (.getfield 158, 3) := by decide +kernel
theorem dX7_sleeper_83 : decode cX7_sleeper 83 = .ok (.iload_n 1, 1) := by decide +kernel
theorem dX7_sleeper_84 : decode cX7_sleeper 84 = .ok (.iaload, 1) := by decide +kernel
theorem dX7_sleeper_85 : decode cX7_sleeper 85 = .ok (.ireturn, 1) := by decide +kernel
theorem dX7_sleeper_86 : decode cX7_sleeper 86 = .ok (.aload_n 0, 1) := by decide +kernel
theorem dX7_sleeper_87 : decode cX7_sleeper 87 = .ok (.getfield 19, 3) := by decide +kernel
theorem dX7_sleeper_90 : decode cX7_sleeper 90 = .ok (.getfield 161, 3) := by decide +kernel
theorem dX7_sleeper_93 : decode cX7_sleeper 93 = .ok (.iload_n 1, 1) := by decide +kernel
theorem dX7_sleeper_94 : decode cX7_sleeper 94 = .ok (.iaload, 1) := by decide +kernel
theorem dX7_sleeper_95 : decode cX7_sleeper 95 = .ok (.ireturn, 1) := by decide +kernel
theorem dX7_sleeper_96 : decode cX7_sleeper 96 = .ok (.aload_n 0, 1) := by decide +kernel
theorem dX7_sleeper_97 : decode cX7_sleeper 97 = .ok (.getfield 28, 3) := by decide +kernel
theorem dX7_sleeper_100 : decode cX7_sleeper 100 = .ok (.getfield 100, 3) := by decide +kernel
theorem dX7_sleeper_103 : decode cX7_sleeper 103 = .ok (.getfield 164, 3) := by decide +kernel
theorem dX7_sleeper_106 : decode cX7_sleeper 106 = .ok (.iload_n 1, 1) := by decide +kernel
theorem dX7_sleeper_107 : decode cX7_sleeper 107 = .ok (.iaload, 1) := by decide +kernel
theorem dX7_sleeper_108 : decode cX7_sleeper 108 = .ok (.ireturn, 1) := by decide +kernel
theorem dX7_sleeper_109 : decode cX7_sleeper 109 = .ok (.aload_n 0, 1) := by decide +kernel
theorem dX7_sleeper_110 : decode cX7_sleeper 110 = .ok (.getfield 28, 3) := by decide +kernel
theorem dX7_sleeper_113 : decode cX7_sleeper 113 = .ok (.getfield 100, 3) := by decide +kernel
theorem dX7_sleeper_116 : decode cX7_sleeper 116 = .ok (.iload_n 1, 1) := by decide +kernel
theorem dX7_sleeper_117 : decode cX7_sleeper 117 = .ok (.invokevirtual 167, 3) := by decide +kernel
theorem dX7_sleeper_120 : decode cX7_sleeper 120 = .ok (.ireturn, 1) := by decide +kernel
theorem dX7_sleeper_121 : decode cX7_sleeper 121 = .ok (.aload_n 0, 1) := by decide +kernel
theorem dX7_sleeper_122 : decode cX7_sleeper 122 = .ok (.getfield 28, 3) := by decide +kernel
theorem dX7_sleeper_125 : decode cX7_sleeper 125 = .ok (.getfield 100, 3) := by decide +kernel
theorem dX7_sleeper_128 : decode cX7_sleeper 128 = .ok (.iload_n 1, 1) := by decide +kernel
theorem dX7_sleeper_129 : decode cX7_sleeper 129 = .ok (.invokevirtual 170, 3) := by decide +kernel
theorem dX7_sleeper_132 : decode cX7_sleeper 132 = .ok (.ireturn, 1) := by decide +kernel
theorem dX7_sleeper_133 : decode cX7_sleeper 133 = .ok (.ldc 59, 2) := by decide +kernel
theorem dX7_sleeper_135 : decode cX7_sleeper 135 = .ok (.ireturn, 1) := by decide +kernel
theorem dX7_shift_0 : decode cX7_shift 0 = .ok (.aload_n 0, 1) := by decide +kernel
theorem dX7_shift_1 : decode cX7_shift 1 = .ok (.getfield 19, 3) := by decide +kernel
theorem dX7_shift_4 : decode cX7_shift 4 = .ok (.iload_n 1, 1) := by decide +kernel
theorem dX7_shift_5 : decode cX7_shift 5 = .ok (.invokevirtual 149, 3) := by decide +kernel
theorem dX7_shift_8 : decode cX7_shift 8 = .ok (.ifCond .ne 6, 3) := by decide +kernel
theorem dX7_shift_11 : decode cX7_shift 11 = .ok (.ldc 128, 2) := by decide +kernel
theorem dX7_shift_13 : decode cX7_shift 13 = .ok (.ireturn, 1) := by decide +kernel
theorem dX7_shift_14 : decode cX7_shift 14 = .ok (.iload_n 2, 1) := by decide +kernel
theorem dX7_shift_15 : decode cX7_shift 15 = .ok (.ifCond .lt 24, 3) := by decide +kernel
theorem dX7_shift_18 : decode cX7_shift 18 = .ok (.iload_n 2, 1) := by decide +kernel
theorem dX7_shift_19 : decode cX7_shift 19 = .ok (.aload_n 0, 1) := by decide +kernel
theorem dX7_shift_20 : decode cX7_shift 20 = .ok (.getfield 19, 3) := by decide +kernel
theorem dX7_shift_23 : decode cX7_shift 23 = .ok (.getfield 136, 3) := by decide +kernel
theorem dX7_shift_26 : decode cX7_shift 26 = .ok (.aload_n 0, 1) := by decide +kernel
theorem dX7_shift_27 : decode cX7_shift 27 = .ok (.getfield 19, 3) := by decide +kernel
theorem dX7_shift_30 : decode cX7_shift 30 = .ok (.getfield 152, 3) := by decide +kernel
theorem dX7_shift_33 : decode cX7_shift 33 = .ok (.iload_n 1, 1) := by decide +kernel
theorem dX7_shift_34 : decode cX7_shift 34 = .ok (.iaload, 1) := by decide +kernel
theorem dX7_shift_35 : decode cX7_shift 35 = .ok (.iaload, 1) := by decide +kernel
theorem dX7_shift_36 : decode cX7_shift 36 = .ok (.if_icmp .le 6, 3) := by decide +kernel
theorem dX7_shift_39 : decode cX7_shift 39 = .ok (.ldc 59, 2) := by decide +kernel
theorem dX7_shift_41 : decode cX7_shift 41 = .ok (.ireturn, 1) := by decide +kernel
theorem dX7_shift_42 : decode cX7_shift 42 = .ok (.aload_n 0, 1) := by decide +kernel
theorem dX7_shift_43 : decode cX7_shift 43 = .ok (.getfield 28, 3) := by decide +kernel
theorem dX7_shift_46 : decode cX7_shift 46 = .ok (.getfield 100, 3) := by decide +kernel
theorem dX7_shift_49 : decode cX7_shift 49 = .ok (.getfield 164, 3) := by decide +kernel
theorem dX7_shift_52 : decode cX7_shift 52 = .ok (.iload_n 1, 1) := by decide +kernel
theorem dX7_shift_53 : decode cX7_shift 53 = .ok (.iaload, 1) := by decide +kernel
theorem dX7_shift_54 : decode cX7_shift 54 = .ok (.istore_n 3, 1) := by decide +kernel
theorem dX7_shift_55 : decode cX7_shift 55 = .ok (.aload_n 0, 1) := by decide +kernel
theorem dX7_shift_56 : decode cX7_shift 56 = .ok (.getfield 28, 3) := by decide +kernel
theorem dX7_shift_59 : decode cX7_shift 59 = .ok (.getfield 100, 3) := by decide +kernel
theorem dX7_shift_62 : decode cX7_shift 62 = .ok (.iload_n 1, 1) := by decide +kernel
theorem dX7_shift_63 : decode cX7_shift 63 = .ok (.iload_n 2, 1) := by decide +kernel
theorem dX7_shift_64 : decode cX7_shift 64 = .ok (.invokevirtual 173, 3) := by decide +kernel
theorem dX7_shift_67 : decode cX7_shift 67 = .ok (.iload_n 3, 1) := by decide +kernel
theorem dX7_shift_68 : decode cX7_shift 68 = .ok (.ireturn, 1) := by decide +kernel
theorem dX7_noise_0 : decode cX7_noise 0 = .ok (.aload_n 0, 1) := by decide +kernel
theorem dX7_noise_1 : decode cX7_noise 1 = .ok (.getfield 19, 3) := by decide +kernel
theorem dX7_noise_4 : decode cX7_noise 4 = .ok (.iload_n 1, 1) := by decide +kernel
theorem dX7_noise_5 : decode cX7_noise 5 = .ok (.invokevirtual 124, 3) := by decide +kernel
theorem dX7_noise_8 : decode cX7_noise 8 = .ok (.ifCond .ne 6, 3) := by decide +kernel
theorem dX7_noise_11 : decode cX7_noise 11 = .ok (.ldc 128, 2) := by decide +kernel
theorem dX7_noise_13 : decode cX7_noise 13 = .ok (.ireturn, 1) := by decide +kernel
theorem dX7_noise_14 : decode cX7_noise 14 = .ok (.iload_n 2, 1) := by decide +kernel
theorem dX7_noise_15 : decode cX7_noise 15 = .ok (.ifCond .lt 20, 3) := by decide +kernel
theorem dX7_noise_18 : decode cX7_noise 18 = .ok (.iload_n 2, 1) := by decide +kernel
theorem dX7_noise_19 : decode cX7_noise 19 = .ok (.sipush 700, 3) := by decide +kernel
theorem dX7_noise_22 : decode cX7_noise 22 = .ok (.if_icmp .gt 13, 3) := by decide +kernel
theorem dX7_noise_25 : decode cX7_noise 25 = .ok (.iload_n 3, 1) := by decide +kernel
theorem dX7_noise_26 : decode cX7_noise 26 = .ok (.ifCond .lt 9, 3) := by decide +kernel
theorem dX7_noise_29 : decode cX7_noise 29 = .ok (.iload_n 3, 1) := by decide +kernel
theorem dX7_noise_30 : decode cX7_noise 30 = .ok (.bipush 9, 2) := by decide +kernel
theorem dX7_noise_32 : decode cX7_noise 32 = .ok (.if_icmp .le 6, 3) := by decide +kernel
theorem dX7_noise_35 : decode cX7_noise 35 = .ok (.ldc 59, 2) := by decide +kernel
theorem dX7_noise_37 : decode cX7_noise 37 = .ok (.ireturn, 1) := by decide +kernel
theorem dX7_noise_38 : decode cX7_noise 38 = .ok (.aload_n 0, 1) := by decide +kernel
theorem dX7_noise_39 : decode cX7_noise 39 = .ok (.getfield 28, 3) := by decide +kernel
theorem dX7_noise_42 : decode cX7_noise 42 = .ok (.getfield 100, 3) := by decide +kernel
theorem dX7_noise_45 : decode cX7_noise 45 = .ok (.invokevirtual 177, 3) := by decide +kernel
theorem dX7_noise_48 : decode cX7_noise 48 = .ok (.ifCond .eq 7, 3) := by decide +kernel
theorem dX7_noise_51 : decode cX7_noise 51 = .ok (.iconst 1, 1) := by decide +kernel
theorem dX7_noise_52 : decode cX7_noise 52 = .ok (.goto 4, 3) := by decide +kernel
theorem dX7_noise_55 : decode cX7_noise 55 = .ok (.iconst 0, 1) := by decide +kernel
theorem dX7_noise_56 : decode cX7_noise 56 = .ok (.istore 4, 2) := by decide +kernel
theorem dX7_noise_58 : decode cX7_noise 58 = .ok (.aload_n 0, 1) := by decide +kernel
theorem dX7_noise_59 : decode cX7_noise 59 = .ok (.getfield 28, 3) := by decide +kernel
theorem dX7_noise_62 : decode cX7_noise 62 = .ok (.getfield 100, 3) := by decide +kernel
theorem dX7_noise_65 : decode cX7_noise 65 = .ok (.iload_n 1, 1) := by decide +kernel
theorem dX7_noise_66 : decode cX7_noise 66 = .ok (.iload_n 2, 1) := by decide +kernel
theorem dX7_noise_67 : decode cX7_noise 67 = .ok (.iload_n 3, 1) := by decide +kernel
theorem dX7_noise_68 : decode cX7_noise 68 = .ok (.invokevirtual 181, 3) := by decide +kernel
theorem dX7_noise_71 : decode cX7_noise 71 = .ok (.iload 4, 2) := by decide +kernel
theorem dX7_noise_73 : decode cX7_noise 73 = .ok (.ireturn, 1) := by decide +kernel
theorem dX7_hush_0 : decode cX7_hush 0 = .ok (.aload_n 0, 1) := by decide +kernel
theorem dX7_hush_1 : decode cX7_hush 1 = .ok (.getfield 28, 3) := by decide +kernel
theorem dX7_hush_4 : decode cX7_hush 4 = .ok (.getfield 100, 3) := by decide +kernel
theorem dX7_hush_7 : decode cX7_hush 7 = .ok (.invokevirtual 177, 3) := by decide +kernel
theorem dX7_hush_10 : decode cX7_hush 10 = .ok (.ifCond .eq 7, 3) := by decide +kernel
theorem dX7_hush_13 : decode cX7_hush 13 = .ok (.iconst 1, 1) := by decide +kernel
theorem dX7_hush_14 : decode cX7_hush 14 = .ok (.goto 4, 3) := by decide +kernel
theorem dX7_hush_17 : decode cX7_hush 17 = .ok (.iconst 0, 1) := by decide +kernel
theorem dX7_hush_18 : decode cX7_hush 18 = .ok (.istore_n 1, 1) := by decide +kernel
theorem dX7_hush_19 : decode cX7_hush 19 = .ok (.aload_n 0, 1) := by decide +kernel
theorem dX7_hush_20 : decode cX7_hush 20 = .ok (.getfield 28, 3) := by decide +kernel
theorem dX7_hush_23 : decode cX7_hush 23 = .ok (.getfield 100, 3) := by decide +kernel
theorem dX7_hush_26 : decode cX7_hush 26 = .ok (.iconst (-1), 1) := by decide +kernel
theorem dX7_hush_27 : decode cX7_hush 27 = .ok (.iconst (-1), 1) := by decide +kernel
theorem dX7_hush_28 : decode cX7_hush 28 = .ok (.iconst (-1), 1) := by decide +kernel
theorem dX7_hush_29 : decode cX7_hush 29 = .ok (.invokevirtual 181, 3) := by decide +kernel
theorem dX7_hush_32 : decode cX7_hush 32 = .ok (.iload_n 1, 1) := by decide +kernel
theorem dX7_hush_33 : decode cX7_hush 33 = .ok (.ireturn, 1) := by decide +kernel
theorem dX7_law_0 : decode cX7_law 0 = .ok (.iload_n 1, 1) := by decide +kernel
theorem dX7_law_1 : decode cX7_law 1 = .ok (.ifCond .lt 8, 3) := by decide +kernel
theorem dX7_law_4 : decode cX7_law 4 = .ok (.iload_n 1, 1) := by decide +kernel
theorem dX7_law_5 : decode cX7_law 5 = .ok (.iconst 2, 1) := by decide +kernel
theorem dX7_law_6 : decode cX7_law 6 = .ok (.if_icmp .le 6, 3) := by decide +kernel
theorem dX7_law_9 : decode cX7_law 9 = .ok (.ldc 59, 2) := by decide +kernel
theorem dX7_law_11 : decode cX7_law 11 = .ok (.ireturn, 1) := by decide +kernel
theorem dX7_law_12 : decode cX7_law 12 = .ok (.aload_n 0, 1) := by decide +kernel
theorem dX7_law_13 : decode cX7_law 13 = .ok (.getfield 28, 3) := by decide +kernel
theorem dX7_law_16 : decode cX7_law 16 = .ok (.getfield 100, 3) := by decide +kernel
theorem dX7_law_19 : decode cX7_law 19 = .ok (.getfield 104, 3) := by decide +kernel
theorem dX7_law_22 : decode cX7_law 22 = .ok (.istore_n 2, 1) := by decide +kernel
theorem dX7_law_23 : decode cX7_law 23 = .ok (.aload_n 0, 1) := by decide +kernel
theorem dX7_law_24 : decode cX7_law 24 = .ok (.getfield 28, 3) := by decide +kernel
theorem dX7_law_27 : decode cX7_law 27 = .ok (.getfield 100, 3) := by decide +kernel
theorem dX7_law_30 : decode cX7_law 30 = .ok (.iload_n 1, 1) := by decide +kernel
theorem dX7_law_31 : decode cX7_law 31 = .ok (.putfield 104, 3) := by decide +kernel
theorem dX7_law_34 : decode cX7_law 34 = .ok (.iload_n 2, 1) := by decide +kernel
theorem dX7_law_35 : decode cX7_law 35 = .ok (.ireturn, 1) := by decide +kernel
theorem dX7_dawn_0 : decode cX7_dawn 0 = .ok (.iload_n 1, 1) := by decide +kernel
theorem dX7_dawn_1 : decode cX7_dawn 1 = .ok (.iconst 1, 1) := by decide +kernel
theorem dX7_dawn_2 : decode cX7_dawn 2 = .ok (.if_icmp .lt 9, 3) := by decide +kernel
theorem dX7_dawn_5 : decode cX7_dawn 5 = .ok (.iload_n 1, 1) := by decide +kernel
theorem dX7_dawn_6 : decode cX7_dawn 6 = .ok (.bipush 99, 2) := by decide +kernel
theorem dX7_dawn_8 : decode cX7_dawn 8 = .ok (.if_icmp .le 6, 3) := by decide +kernel
theorem dX7_dawn_11 : decode cX7_dawn 11 = .ok (.ldc 59, 2) := by decide +kernel
theorem dX7_dawn_13 : decode cX7_dawn 13 = .ok (.ireturn, 1) := by decide +kernel
theorem dX7_dawn_14 : decode cX7_dawn 14 = .ok (.aload_n 0, 1) := by decide +kernel
theorem dX7_dawn_15 : decode cX7_dawn 15 = .ok (.getfield 19, 3) := by decide +kernel
theorem dX7_dawn_18 : decode cX7_dawn 18 = .ok (.getfield 88, 3) := by decide +kernel
theorem dX7_dawn_21 : decode cX7_dawn 21 = .ok (.ifCond .ne 6, 3) := by decide +kernel
theorem dX7_dawn_24 : decode cX7_dawn 24 = .ok (.ldc 185, 2) := by decide +kernel
theorem dX7_dawn_26 : decode cX7_dawn 26 = .ok (.ireturn, 1) := by decide +kernel
theorem dX7_dawn_27 : decode cX7_dawn 27 = .ok (.iconst (-1), 1) := by decide +kernel
theorem dX7_dawn_28 : decode cX7_dawn 28 = .ok (.istore_n 2, 1) := by decide +kernel
theorem dX7_dawn_29 : decode cX7_dawn 29 = .ok (.iconst 0, 1) := by decide +kernel
theorem dX7_dawn_30 : decode cX7_dawn 30 = .ok (.istore_n 3, 1) := by decide +kernel
theorem dX7_dawn_31 : decode cX7_dawn 31 = .ok (.iload_n 3, 1) := by decide +kernel
theorem dX7_dawn_32 : decode cX7_dawn 32 = .ok (.iload_n 1, 1) := by decide +kernel
theorem dX7_dawn_33 : decode cX7_dawn 33 = .ok (.if_icmp .ge 17, 3) := by decide +kernel
theorem dX7_dawn_36 : decode cX7_dawn 36 = .ok (.aload_n 0, 1) := by decide +kernel
theorem dX7_dawn_37 : decode cX7_dawn 37 = .ok (.getfield 28, 3) := by decide +kernel
theorem dX7_dawn_40 : decode cX7_dawn 40 = .ok (.invokevirtual 186, 3) := by decide +kernel
theorem dX7_dawn_43 : decode cX7_dawn 43 = .ok (.istore_n 2, 1) := by decide +kernel
theorem dX7_dawn_44 : decode cX7_dawn 44 = .ok (.iinc 3 1, 3) := by decide +kernel
theorem dX7_dawn_47 : decode cX7_dawn 47 = .ok (.goto (-16), 3) := by decide +kernel
theorem dX7_dawn_50 : decode cX7_dawn 50 = .ok (.iload_n 2, 1) := by decide +kernel
theorem dX7_dawn_51 : decode cX7_dawn 51 = .ok (.ireturn, 1) := by decide +kernel
theorem dX7_ruler_0 : decode cX7_ruler 0 = .ok (.iload_n 2, 1) := by decide +kernel
theorem dX7_ruler_1 : decode cX7_ruler 1 = .ok (.ifCond .lt 8, 3) := by decide +kernel
theorem dX7_ruler_4 : decode cX7_ruler 4 = .ok (.iload_n 2, 1) := by decide +kernel
theorem dX7_ruler_5 : decode cX7_ruler 5 = .ok (.iconst 1, 1) := by decide +kernel
theorem dX7_ruler_6 : decode cX7_ruler 6 = .ok (.if_icmp .le 6, 3) := by decide +kernel
theorem dX7_ruler_9 : decode cX7_ruler 9 = .ok (.ldc 59, 2) := by decide +kernel
theorem dX7_ruler_11 : decode cX7_ruler 11 = .ok (.ireturn, 1) := by decide +kernel
theorem dX7_ruler_12 : decode cX7_ruler 12 = .ok (.iload_n 1, 1) := by decide +kernel
theorem dX7_ruler_13 : decode cX7_ruler 13 = .ok (.ifCond .lt 14, 3) := by decide +kernel
theorem dX7_ruler_16 : decode cX7_ruler 16 = .ok (.iload_n 1, 1) := by decide +kernel
theorem dX7_ruler_17 : decode cX7_ruler 17 = .ok (.aload_n 0, 1) := by decide +kernel
theorem dX7_ruler_18 : decode cX7_ruler 18 = .ok (.getfield 28, 3) := by decide +kernel
theorem dX7_ruler_21 : decode cX7_ruler 21 = .ok (.getfield 118, 3) := by decide +kernel
theorem dX7_ruler_24 : decode cX7_ruler 24 = .ok (.if_icmp .lt 5, 3) := by decide +kernel
theorem dX7_ruler_27 : decode cX7_ruler 27 = .ok (.iconst (-1), 1) := by decide +kernel
theorem dX7_ruler_28 : decode cX7_ruler 28 = .ok (.ireturn, 1) := by decide +kernel
theorem dX7_ruler_29 : decode cX7_ruler 29 = .ok (.iload_n 2, 1) := by decide +kernel
theorem dX7_ruler_30 : decode cX7_ruler 30 = .ok (.ifCond .ne 15, 3) := by decide +kernel
theorem dX7_ruler_33 : decode cX7_ruler 33 = .ok (.aload_n 0, 1) := by decide +kernel
theorem dX7_ruler_34 : decode cX7_ruler 34 = .ok (.getfield 28, 3) := by decide +kernel
theorem dX7_ruler_37 : decode cX7_ruler 37 = .ok (.getfield 189, 3) := by decide +kernel
theorem dX7_ruler_40 : decode cX7_ruler 40 = .ok (.iload_n 1, 1) := by decide +kernel
theorem dX7_ruler_41 : decode cX7_ruler 41 = .ok (.iaload, 1) := by decide +kernel
theorem dX7_ruler_42 : decode cX7_ruler 42 = .ok (.goto 12, 3) := by decide +kernel
theorem dX7_ruler_45 : decode cX7_ruler 45 = .ok (.aload_n 0, 1) := by decide +kernel
theorem dX7_ruler_46 : decode cX7_ruler 46 = .ok (.getfield 28, 3) := by decide +kernel
theorem dX7_ruler_49 : decode cX7_ruler 49 = .ok (.getfield 192, 3) := by decide +kernel
theorem dX7_ruler_52 : decode cX7_ruler 52 = .ok (.iload_n 1, 1) := by decide +kernel
theorem dX7_ruler_53 : decode cX7_ruler 53 = .ok (.iaload, 1) := by decide +kernel
theorem dX7_ruler_54 : decode cX7_ruler 54 = .ok (.ireturn, 1) := by decide +kernel
theorem dX7_odds_0 : decode cX7_odds 0 = .ok (.aload_n 0, 1) := by decide +kernel
theorem dX7_odds_1 : decode cX7_odds 1 = .ok (.getfield 19, 3) := by decide +kernel
theorem dX7_odds_4 : decode cX7_odds 4 = .ok (.iload_n 1, 1) := by decide +kernel
theorem dX7_odds_5 : decode cX7_odds 5 = .ok (.invokevirtual 149, 3) := by decide +kernel
theorem dX7_odds_8 : decode cX7_odds 8 = .ok (.ifCond .eq 17, 3) := by decide +kernel
theorem dX7_odds_11 : decode cX7_odds 11 = .ok (.aload_n 0, 1) := by decide +kernel
theorem dX7_odds_12 : decode cX7_odds 12 = .ok (.getfield 28, 3) := by decide +kernel
theorem dX7_odds_15 : decode cX7_odds 15 = .ok (.getfield 100, 3) := by decide +kernel
theorem dX7_odds_18 : decode cX7_odds 18 = .ok (.iload_n 1, 1) := by decide +kernel
theorem dX7_odds_19 : decode cX7_odds 19 = .ok (.invokevirtual 195, 3) := by decide +kernel
theorem dX7_odds_22 : decode cX7_odds 22 = .ok (.goto 5, 3) := by decide +kernel
theorem dX7_odds_25 : decode cX7_odds 25 = .ok (.ldc 128, 2) := by decide +kernel
theorem dX7_odds_27 : decode cX7_odds 27 = .ok (.ireturn, 1) := by decide +kernel
theorem dX7_together_0 : decode cX7_together 0 = .ok (.iload_n 1, 1) := by decide +kernel
theorem dX7_together_1 : decode cX7_together 1 = .ok (.ifCond .lt 20, 3) := by decide +kernel
theorem dX7_together_4 : decode cX7_together 4 = .ok (.iload_n 1, 1) := by decide +kernel
theorem dX7_together_5 : decode cX7_together 5 = .ok (.iconst 1, 1) := by decide +kernel
theorem dX7_together_6 : decode cX7_together 6 = .ok (.aload_n 0, 1) := by decide +kernel
theorem dX7_together_7 : decode cX7_together 7 = .ok (.getfield 19, 3) := by decide +kernel
theorem dX7_together_10 : decode cX7_together 10 = .ok (.getfield 94, 3) := by decide +kernel
theorem dX7_together_13 : decode cX7_together 13 = .ok (.ishl, 1) := by decide +kernel
theorem dX7_together_14 : decode cX7_together 14 = .ok (.if_icmp .ge 7, 3) := by decide +kernel
theorem dX7_together_17 : decode cX7_together 17 = .ok (.iconst 1, 1) := by decide +kernel
theorem dX7_together_18 : decode cX7_together 18 = .ok (.goto 4, 3) := by decide +kernel
theorem dX7_together_21 : decode cX7_together 21 = .ok (.iconst 0, 1) := by decide +kernel
theorem dX7_together_22 : decode cX7_together 22 = .ok (.istore_n 2, 1) := by decide +kernel
theorem dX7_together_23 : decode cX7_together 23 = .ok (.iload_n 2, 1) := by decide +kernel
theorem dX7_together_24 : decode cX7_together 24 = .ok (.ifCond .eq 17, 3) := by decide +kernel
theorem dX7_together_27 : decode cX7_together 27 = .ok (.aload_n 0, 1) := by decide +kernel
theorem dX7_together_28 : decode cX7_together 28 = .ok (.getfield 28, 3) := by decide +kernel
theorem dX7_together_31 : decode cX7_together 31 = .ok (.getfield 100, 3) := by decide +kernel
theorem dX7_together_34 : decode cX7_together 34 = .ok (.iload_n 1, 1) := by decide +kernel
theorem dX7_together_35 : decode cX7_together 35 = .ok (.invokevirtual 198, 3) := by decide +kernel
theorem dX7_together_38 : decode cX7_together 38 = .ok (.goto 5, 3) := by decide +kernel
theorem dX7_together_41 : decode cX7_together 41 = .ok (.ldc 128, 2) := by decide +kernel
theorem dX7_together_43 : decode cX7_together 43 = .ok (.ireturn, 1) := by decide +kernel
theorem dX7_best_0 : decode cX7_best 0 = .ok (.aload_n 0, 1) := by decide +kernel
theorem dX7_best_1 : decode cX7_best 1 = .ok (.getfield 19, 3) := by decide +kernel
theorem dX7_best_4 : decode cX7_best 4 = .ok (.iload_n 1, 1) := by decide +kernel
theorem dX7_best_5 : decode cX7_best 5 = .ok (.invokevirtual 124, 3) := by decide +kernel
theorem dX7_best_8 : decode cX7_best 8 = .ok (.ifCond .ne 6, 3) := by decide +kernel
theorem dX7_best_11 : decode cX7_best 11 = .ok (.ldc 128, 2) := by decide +kernel
theorem dX7_best_13 : decode cX7_best 13 = .ok (.ireturn, 1) := by decide +kernel
theorem dX7_best_14 : decode cX7_best 14 = .ok (.iload_n 2, 1) := by decide +kernel
theorem dX7_best_15 : decode cX7_best 15 = .ok (.ifCond .lt 8, 3) := by decide +kernel
theorem dX7_best_18 : decode cX7_best 18 = .ok (.iload_n 2, 1) := by decide +kernel
theorem dX7_best_19 : decode cX7_best 19 = .ok (.iconst 1, 1) := by decide +kernel
theorem dX7_best_20 : decode cX7_best 20 = .ok (.if_icmp .le 6, 3) := by decide +kernel
theorem dX7_best_23 : decode cX7_best 23 = .ok (.ldc 59, 2) := by decide +kernel
theorem dX7_best_25 : decode cX7_best 25 = .ok (.ireturn, 1) := by decide +kernel
theorem dX7_best_26 : decode cX7_best 26 = .ok (.aload_n 0, 1) := by decide +kernel
theorem dX7_best_27 : decode cX7_best 27 = .ok (.getfield 19, 3) := by decide +kernel
theorem dX7_best_30 : decode cX7_best 30 = .ok (.iload_n 1, 1) := by decide +kernel
theorem dX7_best_31 : decode cX7_best 31 = .ok (.invokevirtual 145, 3) := by decide +kernel
theorem dX7_best_34 : decode cX7_best 34 = .ok (.ifCond .ne 6, 3) := by decide +kernel
theorem dX7_best_37 : decode cX7_best 37 = .ok (.ldc 185, 2) := by decide +kernel
theorem dX7_best_39 : decode cX7_best 39 = .ok (.ireturn, 1) := by decide +kernel
theorem dX7_best_40 : decode cX7_best 40 = .ok (.aload_n 0, 1) := by decide +kernel
theorem dX7_best_41 : decode cX7_best 41 = .ok (.getfield 48, 3) := by decide +kernel
theorem dX7_best_44 : decode cX7_best 44 = .ok (.aload_n 0, 1) := by decide +kernel
theorem dX7_best_45 : decode cX7_best 45 = .ok (.getfield 28, 3) := by decide +kernel
theorem dX7_best_48 : decode cX7_best 48 = .ok (.getfield 100, 3) := by decide +kernel
theorem dX7_best_51 : decode cX7_best 51 = .ok (.iload_n 1, 1) := by decide +kernel
theorem dX7_best_52 : decode cX7_best 52 = .ok (.invokevirtual 201, 3) := by decide +kernel
theorem dX7_best_55 : decode cX7_best 55 = .ok (.iload_n 2, 1) := by decide +kernel
theorem dX7_best_56 : decode cX7_best 56 = .ok (.ifCond .ne 13, 3) := by decide +kernel
theorem dX7_best_59 : decode cX7_best 59 = .ok (.aload_n 0, 1) := by decide +kernel
theorem dX7_best_60 : decode cX7_best 60 = .ok (.getfield 48, 3) := by decide +kernel
theorem dX7_best_63 : decode cX7_best 63 = .ok (.getfield 205, 3) := by decide +kernel
theorem dX7_best_66 : decode cX7_best 66 = .ok (.goto 10, 3) := by decide +kernel
theorem dX7_best_69 : decode cX7_best 69 = .ok (.aload_n 0, 1) := by decide +kernel
theorem dX7_best_70 : decode cX7_best 70 = .ok (.getfield 48, 3) := by decide +kernel
theorem dX7_best_73 : decode cX7_best 73 = .ok (.getfield 208, 3) := by decide +kernel
theorem dX7_best_76 : decode cX7_best 76 = .ok (.ireturn, 1) := by decide +kernel
theorem dX7_rests_0 : decode cX7_rests 0 = .ok (.iload_n 1, 1) := by decide +kernel
theorem dX7_rests_1 : decode cX7_rests 1 = .ok (.iconst (-1), 1) := by decide +kernel
theorem dX7_rests_2 : decode cX7_rests 2 = .ok (.if_icmp .eq 17, 3) := by decide +kernel
theorem dX7_rests_5 : decode cX7_rests 5 = .ok (.aload_n 0, 1) := by decide +kernel
theorem dX7_rests_6 : decode cX7_rests 6 = .ok (.getfield 19, 3) := by decide +kernel
theorem dX7_rests_9 : decode cX7_rests 9 = .ok (.iload_n 1, 1) := by decide +kernel
theorem dX7_rests_10 : decode cX7_rests 10 = .ok (.invokevirtual 124, 3) := by decide +kernel
theorem dX7_rests_13 : decode cX7_rests 13 = .ok (.ifCond .ne 6, 3) := by decide +kernel
theorem dX7_rests_16 : decode cX7_rests 16 = .ok (.ldc 128, 2) := by decide +kernel
theorem dX7_rests_18 : decode cX7_rests 18 = .ok (.ireturn, 1) := by decide +kernel
theorem dX7_rests_19 : decode cX7_rests 19 = .ok (.aload_n 0, 1) := by decide +kernel
theorem dX7_rests_20 : decode cX7_rests 20 = .ok (.getfield 48, 3) := by decide +kernel
theorem dX7_rests_23 : decode cX7_rests 23 = .ok (.aload_n 0, 1) := by decide +kernel
theorem dX7_rests_24 : decode cX7_rests 24 = .ok (.getfield 28, 3) := by decide +kernel
theorem dX7_rests_27 : decode cX7_rests 27 = .ok (.getfield 100, 3) := by decide +kernel
theorem dX7_rests_30 : decode cX7_rests 30 = .ok (.invokevirtual 211, 3) := by decide +kernel
theorem dX7_rests_33 : decode cX7_rests 33 = .ok (.istore_n 2, 1) := by decide +kernel
theorem dX7_rests_34 : decode cX7_rests 34 = .ok (.iload_n 1, 1) := by decide +kernel
theorem dX7_rests_35 : decode cX7_rests 35 = .ok (.iconst (-1), 1) := by decide +kernel
theorem dX7_rests_36 : decode cX7_rests 36 = .ok (.if_icmp .eq 8, 3) := by decide +kernel
theorem dX7_rests_39 : decode cX7_rests 39 = .ok (.iload_n 2, 1) := by decide +kernel
theorem dX7_rests_40 : decode cX7_rests 40 = .ok (.iconst (-1), 1) := by decide +kernel
theorem dX7_rests_41 : decode cX7_rests 41 = .ok (.if_icmp .ne 5, 3) := by decide +kernel
theorem dX7_rests_44 : decode cX7_rests 44 = .ok (.iload_n 2, 1) := by decide +kernel
theorem dX7_rests_45 : decode cX7_rests 45 = .ok (.ireturn, 1) := by decide +kernel
theorem dX7_rests_46 : decode cX7_rests 46 = .ok (.aload_n 0, 1) := by decide +kernel
theorem dX7_rests_47 : decode cX7_rests 47 = .ok (.getfield 48, 3) := by decide +kernel
theorem dX7_rests_50 : decode cX7_rests 50 = .ok (.iload_n 1, 1) := by decide +kernel
theorem dX7_rests_51 : decode cX7_rests 51 = .ok (.invokevirtual 215, 3) := by decide +kernel
theorem dX7_rests_54 : decode cX7_rests 54 = .ok (.ireturn, 1) := by decide +kernel
theorem dX7_loud_0 : decode cX7_loud 0 = .ok (.aload_n 0, 1) := by decide +kernel
theorem dX7_loud_1 : decode cX7_loud 1 = .ok (.getfield 19, 3) := by decide +kernel
theorem dX7_loud_4 : decode cX7_loud 4 = .ok (.iload_n 1, 1) := by decide +kernel
theorem dX7_loud_5 : decode cX7_loud 5 = .ok (.invokevirtual 124, 3) := by decide +kernel
theorem dX7_loud_8 : decode cX7_loud 8 = .ok (.ifCond .ne 6, 3) := by decide +kernel
theorem dX7_loud_11 : decode cX7_loud 11 = .ok (.ldc 128, 2) := by decide +kernel
theorem dX7_loud_13 : decode cX7_loud 13 = .ok (.ireturn, 1) := by decide +kernel
theorem dX7_loud_14 : decode cX7_loud 14 = .ok (.iload_n 2, 1) := by decide +kernel
theorem dX7_loud_15 : decode cX7_loud 15 = .ok (.ifCond .lt 8, 3) := by decide +kernel
theorem dX7_loud_18 : decode cX7_loud 18 = .ok (.iload_n 2, 1) := by decide +kernel
theorem dX7_loud_19 : decode cX7_loud 19 = .ok (.iconst 2, 1) := by decide +kernel
theorem dX7_loud_20 : decode cX7_loud 20 = .ok (.if_icmp .le 6, 3) := by decide +kernel
theorem dX7_loud_23 : decode cX7_loud 23 = .ok (.ldc 59, 2) := by decide +kernel
theorem dX7_loud_25 : decode cX7_loud 25 = .ok (.ireturn, 1) := by decide +kernel
theorem dX7_loud_26 : decode cX7_loud 26 = .ok (.iload_n 2, 1) := by decide +kernel
theorem dX7_loud_27 : decode cX7_loud 27 = .ok (.ifCond .ne 6, 3) := by decide +kernel
theorem dX7_loud_30 : decode cX7_loud 30 = .ok (.bipush 60, 2) := by decide +kernel
theorem dX7_loud_32 : decode cX7_loud 32 = .ok (.ireturn, 1) := by decide +kernel
theorem dX7_loud_33 : decode cX7_loud 33 = .ok (.aload_n 0, 1) := by decide +kernel
theorem dX7_loud_34 : decode cX7_loud 34 = .ok (.getfield 48, 3) := by decide +kernel
theorem dX7_loud_37 : decode cX7_loud 37 = .ok (.aload_n 0, 1) := by decide +kernel
theorem dX7_loud_38 : decode cX7_loud 38 = .ok (.getfield 28, 3) := by decide +kernel
theorem dX7_loud_41 : decode cX7_loud 41 = .ok (.getfield 100, 3) := by decide +kernel
theorem dX7_loud_44 : decode cX7_loud 44 = .ok (.iload_n 1, 1) := by decide +kernel
theorem dX7_loud_45 : decode cX7_loud 45 = .ok (.invokevirtual 218, 3) := by decide +kernel
theorem dX7_loud_48 : decode cX7_loud 48 = .ok (.iload_n 2, 1) := by decide +kernel
theorem dX7_loud_49 : decode cX7_loud 49 = .ok (.iconst 1, 1) := by decide +kernel
theorem dX7_loud_50 : decode cX7_loud 50 = .ok (.if_icmp .ne 13, 3) := by decide +kernel
theorem dX7_loud_53 : decode cX7_loud 53 = .ok (.aload_n 0, 1) := by decide +kernel
theorem dX7_loud_54 : decode cX7_loud 54 = .ok (.getfield 48, 3) := by decide +kernel
theorem dX7_loud_57 : decode cX7_loud 57 = .ok (.getfield 221, 3) := by decide +kernel
theorem dX7_loud_60 : decode cX7_loud 60 = .ok (.goto 10, 3) := by decide +kernel
theorem dX7_loud_63 : decode cX7_loud 63 = .ok (.aload_n 0, 1) := by decide +kernel
theorem dX7_loud_64 : decode cX7_loud 64 = .ok (.getfield 48, 3) := by decide +kernel
theorem dX7_loud_67 : decode cX7_loud 67 = .ok (.getfield 208, 3) := by decide +kernel
theorem dX7_loud_70 : decode cX7_loud 70 = .ok (.ireturn, 1) := by decide +kernel
theorem dX7_work_0 : decode cX7_work 0 = .ok (.aload_n 0, 1) := by decide +kernel
theorem dX7_work_1 : decode cX7_work 1 = .ok (.getfield 19, 3) := by decide +kernel
theorem dX7_work_4 : decode cX7_work 4 = .ok (.iload_n 1, 1) := by decide +kernel
theorem dX7_work_5 : decode cX7_work 5 = .ok (.invokevirtual 124, 3) := by decide +kernel
theorem dX7_work_8 : decode cX7_work 8 = .ok (.ifCond .ne 6, 3) := by decide +kernel
theorem dX7_work_11 : decode cX7_work 11 = .ok (.ldc 128, 2) := by decide +kernel
theorem dX7_work_13 : decode cX7_work 13 = .ok (.ireturn, 1) := by decide +kernel
theorem dX7_work_14 : decode cX7_work 14 = .ok (.iload_n 2, 1) := by decide +kernel
theorem dX7_work_15 : decode cX7_work 15 = .ok (.iconst 1, 1) := by decide +kernel
theorem dX7_work_16 : decode cX7_work 16 = .ok (.if_icmp .lt 9, 3) := by decide +kernel
theorem dX7_work_19 : decode cX7_work 19 = .ok (.iload_n 2, 1) := by decide +kernel
theorem dX7_work_20 : decode cX7_work 20 = .ok (.bipush 60, 2) := by decide +kernel
theorem dX7_work_22 : decode cX7_work 22 = .ok (.if_icmp .le 6, 3) := by decide +kernel
theorem dX7_work_25 : decode cX7_work 25 = .ok (.ldc 59, 2) := by decide +kernel
theorem dX7_work_27 : decode cX7_work 27 = .ok (.ireturn, 1) := by decide +kernel
theorem dX7_work_28 : decode cX7_work 28 = .ok (.aload_n 0, 1) := by decide +kernel
theorem dX7_work_29 : decode cX7_work 29 = .ok (.iload_n 1, 1) := by decide +kernel
theorem dX7_work_30 : decode cX7_work 30 = .ok (.invokevirtual 224, 3) := by decide +kernel
theorem dX7_work_33 : decode cX7_work 33 = .ok (.iconst 0, 1) := by decide +kernel
theorem dX7_work_34 : decode cX7_work 34 = .ok (.istore_n 3, 1) := by decide +kernel
theorem dX7_work_35 : decode cX7_work 35 = .ok (.iload_n 3, 1) := by decide +kernel
theorem dX7_work_36 : decode cX7_work 36 = .ok (.iload_n 2, 1) := by decide +kernel
theorem dX7_work_37 : decode cX7_work 37 = .ok (.if_icmp .ge 16, 3) := by decide +kernel
theorem dX7_work_40 : decode cX7_work 40 = .ok (.aload_n 0, 1) := by decide +kernel
theorem dX7_work_41 : decode cX7_work 41 = .ok (.getfield 55, 3) := by decide +kernel
theorem dX7_work_44 : decode cX7_work 44 = .ok (.invokevirtual 228, 3) := by decide +kernel
theorem dX7_work_47 : decode cX7_work 47 = .ok (.iinc 3 1, 3) := by decide +kernel
theorem dX7_work_50 : decode cX7_work 50 = .ok (.goto (-15), 3) := by decide +kernel
theorem dX7_work_53 : decode cX7_work 53 = .ok (.aload_n 0, 1) := by decide +kernel
theorem dX7_work_54 : decode cX7_work 54 = .ok (.getfield 55, 3) := by decide +kernel
theorem dX7_work_57 : decode cX7_work 57 = .ok (.getfield 231, 3) := by decide +kernel
theorem dX7_work_60 : decode cX7_work 60 = .ok (.l2i, 1) := by decide +kernel
theorem dX7_work_61 : decode cX7_work 61 = .ok (.ireturn, 1) := by decide +kernel
theorem dX7_likely_0 : decode cX7_likely 0 = .ok (.aload_n 0, 1) := by decide +kernel
theorem dX7_likely_1 : decode cX7_likely 1 = .ok (.getfield 19, 3) := by decide +kernel
theorem dX7_likely_4 : decode cX7_likely 4 = .ok (.iload_n 1, 1) := by decide +kernel
theorem dX7_likely_5 : decode cX7_likely 5 = .ok (.invokevirtual 124, 3) := by decide +kernel
theorem dX7_likely_8 : decode cX7_likely 8 = .ok (.ifCond .ne 6, 3) := by decide +kernel
theorem dX7_likely_11 : decode cX7_likely 11 = .ok (.ldc 128, 2) := by decide +kernel
theorem dX7_likely_13 : decode cX7_likely 13 = .ok (.ireturn, 1) := by decide +kernel
theorem dX7_likely_14 : decode cX7_likely 14 = .ok (.iload_n 2, 1) := by decide +kernel
theorem dX7_likely_15 : decode cX7_likely 15 = .ok (.iconst 1, 1) := by decide +kernel
theorem dX7_likely_16 : decode cX7_likely 16 = .ok (.if_icmp .lt 9, 3) := by decide +kernel
theorem dX7_likely_19 : decode cX7_likely 19 = .ok (.iload_n 2, 1) := by decide +kernel
theorem dX7_likely_20 : decode cX7_likely 20 = .ok (.bipush 100, 2) := by decide +kernel
theorem dX7_likely_22 : decode cX7_likely 22 = .ok (.if_icmp .le 6, 3) := by decide +kernel
theorem dX7_likely_25 : decode cX7_likely 25 = .ok (.ldc 59, 2) := by decide +kernel
theorem dX7_likely_27 : decode cX7_likely 27 = .ok (.ireturn, 1) := by decide +kernel
theorem dX7_likely_28 : decode cX7_likely 28 = .ok (.aload_n 0, 1) := by decide +kernel
theorem dX7_likely_29 : decode cX7_likely 29 = .ok (.iload_n 1, 1) := by decide +kernel
theorem dX7_likely_30 : decode cX7_likely 30 = .ok (.invokevirtual 224, 3) := by decide +kernel
theorem dX7_likely_33 : decode cX7_likely 33 = .ok (.iconst 1, 1) := by decide +kernel
theorem dX7_likely_34 : decode cX7_likely 34 = .ok (.istore_n 3, 1) := by decide +kernel
theorem dX7_likely_35 : decode cX7_likely 35 = .ok (.iload_n 3, 1) := by decide +kernel
theorem dX7_likely_36 : decode cX7_likely 36 = .ok (.bipush 60, 2) := by decide +kernel
theorem dX7_likely_38 : decode cX7_likely 38 = .ok (.if_icmp .gt 39, 3) := by decide +kernel
theorem dX7_likely_41 : decode cX7_likely 41 = .ok (.aload_n 0, 1) := by decide +kernel
theorem dX7_likely_42 : decode cX7_likely 42 = .ok (.getfield 55, 3) := by decide +kernel
theorem dX7_likely_45 : decode cX7_likely 45 = .ok (.invokevirtual 228, 3) := by decide +kernel
theorem dX7_likely_48 : decode cX7_likely 48 = .ok (.aload_n 0, 1) := by decide +kernel
theorem dX7_likely_49 : decode cX7_likely 49 = .ok (.getfield 55, 3) := by decide +kernel
theorem dX7_likely_52 : decode cX7_likely 52 = .ok (.getfield 231, 3) := by decide +kernel
theorem dX7_likely_55 : decode cX7_likely 55 = .ok (.ldc2_w 234, 3) := by decide +kernel
theorem dX7_likely_58 : decode cX7_likely 58 = .ok (.lmul, 1) := by decide +kernel
theorem dX7_likely_59 : decode cX7_likely 59 = .ok (.iload_n 2, 1) := by decide +kernel
theorem dX7_likely_60 : decode cX7_likely 60 = .ok (.i2l, 1) := by decide +kernel
theorem dX7_likely_61 : decode cX7_likely 61 = .ok (.ldc2_w 236, 3) := by decide +kernel
theorem dX7_likely_64 : decode cX7_likely 64 = .ok (.lmul, 1) := by decide +kernel
theorem dX7_likely_65 : decode cX7_likely 65 = .ok (.lcmp, 1) := by decide +kernel
theorem dX7_likely_66 : decode cX7_likely 66 = .ok (.ifCond .lt 5, 3) := by decide +kernel
theorem dX7_likely_69 : decode cX7_likely 69 = .ok (.iload_n 3, 1) := by decide +kernel
theorem dX7_likely_70 : decode cX7_likely 70 = .ok (.ireturn, 1) := by decide +kernel
theorem dX7_likely_71 : decode cX7_likely 71 = .ok (.iinc 3 1, 3) := by decide +kernel
theorem dX7_likely_74 : decode cX7_likely 74 = .ok (.goto (-39), 3) := by decide +kernel
theorem dX7_likely_77 : decode cX7_likely 77 = .ok (.iconst (-1), 1) := by decide +kernel
theorem dX7_likely_78 : decode cX7_likely 78 = .ok (.ireturn, 1) := by decide +kernel
theorem dX7_lookAhead_0 : decode cX7_lookAhead 0 = .ok (.aload_n 0, 1) := by decide +kernel
theorem dX7_lookAhead_1 : decode cX7_lookAhead 1 = .ok (.getfield 55, 3) := by decide +kernel
theorem dX7_lookAhead_4 : decode cX7_lookAhead 4 = .ok (.aload_n 0, 1) := by decide +kernel
theorem dX7_lookAhead_5 : decode cX7_lookAhead 5 = .ok (.getfield 19, 3) := by decide +kernel
theorem dX7_lookAhead_8 : decode cX7_lookAhead 8 = .ok (.getfield 129, 3) := by decide +kernel
theorem dX7_lookAhead_11 : decode cX7_lookAhead 11 = .ok (.iload_n 1, 1) := by decide +kernel
theorem dX7_lookAhead_12 : decode cX7_lookAhead 12 = .ok (.iaload, 1) := by decide +kernel
theorem dX7_lookAhead_13 : decode cX7_lookAhead 13 = .ok (.aload_n 0, 1) := by decide +kernel
theorem dX7_lookAhead_14 : decode cX7_lookAhead 14 = .ok (.getfield 28, 3) := by decide +kernel
theorem dX7_lookAhead_17 : decode cX7_lookAhead 17 = .ok (.getfield 139, 3) := by decide +kernel
theorem dX7_lookAhead_20 : decode cX7_lookAhead 20 = .ok (.iload_n 1, 1) := by decide +kernel
theorem dX7_lookAhead_21 : decode cX7_lookAhead 21 = .ok (.iaload, 1) := by decide +kernel
theorem dX7_lookAhead_22 : decode cX7_lookAhead 22 = .ok (.aload_n 0, 1) := by decide +kernel
theorem dX7_lookAhead_23 : decode cX7_lookAhead 23 = .ok (.getfield 28, 3) := by decide +kernel
theorem dX7_lookAhead_26 : decode cX7_lookAhead 26 = .ok (.getfield 100, 3) := by decide +kernel
theorem dX7_lookAhead_29 : decode cX7_lookAhead 29 = .ok (.iconst 1, 1) := by decide +kernel
theorem dX7_lookAhead_30 : decode cX7_lookAhead 30 = .ok (.iload_n 1, 1) := by decide +kernel
theorem dX7_lookAhead_31 : decode cX7_lookAhead 31 = .ok (.ishl, 1) := by decide +kernel
theorem dX7_lookAhead_32 : decode cX7_lookAhead 32 = .ok (.invokevirtual 198, 3) := by decide +kernel
theorem dX7_lookAhead_35 : decode cX7_lookAhead 35 = .ok (.invokevirtual 238, 3) := by decide +kernel
theorem dX7_lookAhead_38 : decode cX7_lookAhead 38 = .ok (.return_, 1) := by decide +kernel
theorem dX7_tell_0 : decode cX7_tell 0 = .ok (.aload_n 0, 1) := by decide +kernel
theorem dX7_tell_1 : decode cX7_tell 1 = .ok (.getfield 19, 3) := by decide +kernel
theorem dX7_tell_4 : decode cX7_tell 4 = .ok (.iload_n 1, 1) := by decide +kernel
theorem dX7_tell_5 : decode cX7_tell 5 = .ok (.invokevirtual 149, 3) := by decide +kernel
theorem dX7_tell_8 : decode cX7_tell 8 = .ok (.ifCond .ne 6, 3) := by decide +kernel
theorem dX7_tell_11 : decode cX7_tell 11 = .ok (.ldc 128, 2) := by decide +kernel
theorem dX7_tell_13 : decode cX7_tell 13 = .ok (.ireturn, 1) := by decide +kernel
theorem dX7_tell_14 : decode cX7_tell 14 = .ok (.iload_n 2, 1) := by decide +kernel
theorem dX7_tell_15 : decode cX7_tell 15 = .ok (.ifCond .lt 10, 3) := by decide +kernel
theorem dX7_tell_18 : decode cX7_tell 18 = .ok (.iload_n 2, 1) := by decide +kernel
theorem dX7_tell_19 : decode cX7_tell 19 = .ok (.sipush 999, 3) := by decide +kernel
theorem dX7_tell_22 : decode cX7_tell 22 = .ok (.if_icmp .le 6, 3) := by decide +kernel
theorem dX7_tell_25 : decode cX7_tell 25 = .ok (.ldc 59, 2) := by decide +kernel
theorem dX7_tell_27 : decode cX7_tell 27 = .ok (.ireturn, 1) := by decide +kernel
theorem dX7_tell_28 : decode cX7_tell 28 = .ok (.aload_n 0, 1) := by decide +kernel
theorem dX7_tell_29 : decode cX7_tell 29 = .ok (.getfield 41, 3) := by decide +kernel
theorem dX7_tell_32 : decode cX7_tell 32 = .ok (.iload_n 1, 1) := by decide +kernel
theorem dX7_tell_33 : decode cX7_tell 33 = .ok (.iload_n 2, 1) := by decide +kernel
theorem dX7_tell_34 : decode cX7_tell 34 = .ok (.invokevirtual 241, 3) := by decide +kernel
theorem dX7_tell_37 : decode cX7_tell 37 = .ok (.ifCond .eq 13, 3) := by decide +kernel
theorem dX7_tell_40 : decode cX7_tell 40 = .ok (.aload_n 0, 1) := by decide +kernel
theorem dX7_tell_41 : decode cX7_tell 41 = .ok (.getfield 41, 3) := by decide +kernel
theorem dX7_tell_44 : decode cX7_tell 44 = .ok (.getfield 82, 3) := by decide +kernel
theorem dX7_tell_47 : decode cX7_tell 47 = .ok (.goto 5, 3) := by decide +kernel
theorem dX7_tell_50 : decode cX7_tell 50 = .ok (.ldc 68, 2) := by decide +kernel
theorem dX7_tell_52 : decode cX7_tell 52 = .ok (.ireturn, 1) := by decide +kernel
theorem dX7_forget_0 : decode cX7_forget 0 = .ok (.aload_n 0, 1) := by decide +kernel
theorem dX7_forget_1 : decode cX7_forget 1 = .ok (.getfield 41, 3) := by decide +kernel
theorem dX7_forget_4 : decode cX7_forget 4 = .ok (.getfield 82, 3) := by decide +kernel
theorem dX7_forget_7 : decode cX7_forget 7 = .ok (.istore_n 1, 1) := by decide +kernel
theorem dX7_forget_8 : decode cX7_forget 8 = .ok (.aload_n 0, 1) := by decide +kernel
theorem dX7_forget_9 : decode cX7_forget 9 = .ok (.getfield 41, 3) := by decide +kernel
theorem dX7_forget_12 : decode cX7_forget 12 = .ok (.iconst 0, 1) := by decide +kernel
theorem dX7_forget_13 : decode cX7_forget 13 = .ok (.putfield 82, 3) := by decide +kernel
theorem dX7_forget_16 : decode cX7_forget 16 = .ok (.iload_n 1, 1) := by decide +kernel
theorem dX7_forget_17 : decode cX7_forget 17 = .ok (.ireturn, 1) := by decide +kernel
theorem dX7_lies_0 : decode cX7_lies 0 = .ok (.aload_n 0, 1) := by decide +kernel
theorem dX7_lies_1 : decode cX7_lies 1 = .ok (.getfield 28, 3) := by decide +kernel
theorem dX7_lies_4 : decode cX7_lies 4 = .ok (.getfield 100, 3) := by decide +kernel
theorem dX7_lies_7 : decode cX7_lies 7 = .ok (.getfield 104, 3) := by decide +kernel
theorem dX7_lies_10 : decode cX7_lies 10 = .ok (.iconst 2, 1) := by decide +kernel
theorem dX7_lies_11 : decode cX7_lies 11 = .ok (.if_icmp .ne 8, 3) := by decide +kernel
theorem dX7_lies_14 : decode cX7_lies 14 = .ok (.ldc 185, 2) := by decide +kernel
theorem dX7_lies_16 : decode cX7_lies 16 = .ok (.goto 17, 3) := by decide +kernel
theorem dX7_lies_19 : decode cX7_lies 19 = .ok (.aload_n 0, 1) := by decide +kernel
theorem dX7_lies_20 : decode cX7_lies 20 = .ok (.getfield 41, 3) := by decide +kernel
theorem dX7_lies_23 : decode cX7_lies 23 = .ok (.aload_n 0, 1) := by decide +kernel
theorem dX7_lies_24 : decode cX7_lies 24 = .ok (.getfield 28, 3) := by decide +kernel
theorem dX7_lies_27 : decode cX7_lies 27 = .ok (.getfield 100, 3) := by decide +kernel
theorem dX7_lies_30 : decode cX7_lies 30 = .ok (.invokevirtual 245, 3) := by decide +kernel
theorem dX7_lies_33 : decode cX7_lies 33 = .ok (.ireturn, 1) := by decide +kernel
theorem dX7_fits_0 : decode cX7_fits 0 = .ok (.aload_n 0, 1) := by decide +kernel
theorem dX7_fits_1 : decode cX7_fits 1 = .ok (.getfield 19, 3) := by decide +kernel
theorem dX7_fits_4 : decode cX7_fits 4 = .ok (.iload_n 1, 1) := by decide +kernel
theorem dX7_fits_5 : decode cX7_fits 5 = .ok (.invokevirtual 149, 3) := by decide +kernel
theorem dX7_fits_8 : decode cX7_fits 8 = .ok (.ifCond .ne 6, 3) := by decide +kernel
theorem dX7_fits_11 : decode cX7_fits 11 = .ok (.ldc 128, 2) := by decide +kernel
theorem dX7_fits_13 : decode cX7_fits 13 = .ok (.ireturn, 1) := by decide +kernel
theorem dX7_fits_14 : decode cX7_fits 14 = .ok (.aload_n 0, 1) := by decide +kernel
theorem dX7_fits_15 : decode cX7_fits 15 = .ok (.getfield 28, 3) := by decide +kernel
theorem dX7_fits_18 : decode cX7_fits 18 = .ok (.getfield 100, 3) := by decide +kernel
theorem dX7_fits_21 : decode cX7_fits 21 = .ok (.getfield 104, 3) := by decide +kernel
theorem dX7_fits_24 : decode cX7_fits 24 = .ok (.iconst 2, 1) := by decide +kernel
theorem dX7_fits_25 : decode cX7_fits 25 = .ok (.if_icmp .ne 8, 3) := by decide +kernel
theorem dX7_fits_28 : decode cX7_fits 28 = .ok (.ldc 185, 2) := by decide +kernel
theorem dX7_fits_30 : decode cX7_fits 30 = .ok (.goto 19, 3) := by decide +kernel
theorem dX7_fits_33 : decode cX7_fits 33 = .ok (.aload_n 0, 1) := by decide +kernel
theorem dX7_fits_34 : decode cX7_fits 34 = .ok (.getfield 41, 3) := by decide +kernel
theorem dX7_fits_37 : decode cX7_fits 37 = .ok (.aload_n 0, 1) := by decide +kernel
theorem dX7_fits_38 : decode cX7_fits 38 = .ok (.getfield 28, 3) := by decide +kernel
theorem dX7_fits_41 : decode cX7_fits 41 = .ok (.getfield 100, 3) := by decide +kernel
theorem dX7_fits_44 : decode cX7_fits 44 = .ok (.iload_n 1, 1) := by decide +kernel
theorem dX7_fits_45 : decode cX7_fits 45 = .ok (.iload_n 2, 1) := by decide +kernel
theorem dX7_fits_46 : decode cX7_fits 46 = .ok (.invokevirtual 248, 3) := by decide +kernel
theorem dX7_fits_49 : decode cX7_fits 49 = .ok (.ireturn, 1) := by decide +kernel
theorem dX7_seed_0 : decode cX7_seed 0 = .ok (.iload_n 1, 1) := by decide +kernel
theorem dX7_seed_1 : decode cX7_seed 1 = .ok (.ifCond .ge 6, 3) := by decide +kernel
theorem dX7_seed_4 : decode cX7_seed 4 = .ok (.ldc 59, 2) := by decide +kernel
theorem dX7_seed_6 : decode cX7_seed 6 = .ok (.ireturn, 1) := by decide +kernel
theorem dX7_seed_7 : decode cX7_seed 7 = .ok (.aload_n 0, 1) := by decide +kernel
theorem dX7_seed_8 : decode cX7_seed 8 = .ok (.getfield 28, 3) := by decide +kernel
theorem dX7_seed_11 : decode cX7_seed 11 = .ok (.getfield 252, 3) := by decide +kernel
theorem dX7_seed_14 : decode cX7_seed 14 = .ok (.istore_n 2, 1) := by decide +kernel
theorem dX7_seed_15 : decode cX7_seed 15 = .ok (.aload_n 0, 1) := by decide +kernel
theorem dX7_seed_16 : decode cX7_seed 16 = .ok (.getfield 28, 3) := by decide +kernel
theorem dX7_seed_19 : decode cX7_seed 19 = .ok (.iload_n 1, 1) := by decide +kernel
theorem dX7_seed_20 : decode cX7_seed 20 = .ok (.putfield 252, 3) := by decide +kernel
theorem dX7_seed_23 : decode cX7_seed 23 = .ok (.iload_n 2, 1) := by decide +kernel
theorem dX7_seed_24 : decode cX7_seed 24 = .ok (.ireturn, 1) := by decide +kernel
theorem dX7_keep_0 : decode cX7_keep 0 = .ok (.iload_n 1, 1) := by decide +kernel
theorem dX7_keep_1 : decode cX7_keep 1 = .ok (.ifCond .lt 8, 3) := by decide +kernel
theorem dX7_keep_4 : decode cX7_keep 4 = .ok (.iload_n 1, 1) := by decide +kernel
theorem dX7_keep_5 : decode cX7_keep 5 = .ok (.iconst 2, 1) := by decide +kernel
theorem dX7_keep_6 : decode cX7_keep 6 = .ok (.if_icmp .lt 6, 3) := by decide +kernel
theorem dX7_keep_9 : decode cX7_keep 9 = .ok (.ldc 128, 2) := by decide +kernel
theorem dX7_keep_11 : decode cX7_keep 11 = .ok (.ireturn, 1) := by decide +kernel
theorem dX7_keep_12 : decode cX7_keep 12 = .ok (.aload_n 0, 1) := by decide +kernel
theorem dX7_keep_13 : decode cX7_keep 13 = .ok (.iload_n 1, 1) := by decide +kernel
theorem dX7_keep_14 : decode cX7_keep 14 = .ok (.invokevirtual 255, 3) := by decide +kernel
theorem dX7_keep_17 : decode cX7_keep 17 = .ok (.aload_n 0, 1) := by decide +kernel
theorem dX7_keep_18 : decode cX7_keep 18 = .ok (.getfield 28, 3) := by decide +kernel
theorem dX7_keep_21 : decode cX7_keep 21 = .ok (.invokevirtual 259, 3) := by decide +kernel
theorem dX7_keep_24 : decode cX7_keep 24 = .ok (.aload_n 0, 1) := by decide +kernel
theorem dX7_keep_25 : decode cX7_keep 25 = .ok (.dup, 1) := by decide +kernel
theorem dX7_keep_26 : decode cX7_keep 26 = .ok (.getfield 85, 3) := by decide +kernel
theorem dX7_keep_29 : decode cX7_keep 29 = .ok (.iconst 1, 1) := by decide +kernel
theorem dX7_keep_30 : decode cX7_keep 30 = .ok (.iload_n 1, 1) := by decide +kernel
theorem dX7_keep_31 : decode cX7_keep 31 = .ok (.ishl, 1) := by decide +kernel
theorem dX7_keep_32 : decode cX7_keep 32 = .ok (.ior, 1) := by decide +kernel
theorem dX7_keep_33 : decode cX7_keep 33 = .ok (.putfield 85, 3) := by decide +kernel
theorem dX7_keep_36 : decode cX7_keep 36 = .ok (.iconst 1, 1) := by decide +kernel
theorem dX7_keep_37 : decode cX7_keep 37 = .ok (.ireturn, 1) := by decide +kernel
theorem dX7_goBack_0 : decode cX7_goBack 0 = .ok (.iload_n 1, 1) := by decide +kernel
theorem dX7_goBack_1 : decode cX7_goBack 1 = .ok (.ifCond .lt 8, 3) := by decide +kernel
theorem dX7_goBack_4 : decode cX7_goBack 4 = .ok (.iload_n 1, 1) := by decide +kernel
theorem dX7_goBack_5 : decode cX7_goBack 5 = .ok (.iconst 2, 1) := by decide +kernel
theorem dX7_goBack_6 : decode cX7_goBack 6 = .ok (.if_icmp .lt 6, 3) := by decide +kernel
theorem dX7_goBack_9 : decode cX7_goBack 9 = .ok (.ldc 128, 2) := by decide +kernel
theorem dX7_goBack_11 : decode cX7_goBack 11 = .ok (.ireturn, 1) := by decide +kernel
theorem dX7_goBack_12 : decode cX7_goBack 12 = .ok (.aload_n 0, 1) := by decide +kernel
theorem dX7_goBack_13 : decode cX7_goBack 13 = .ok (.getfield 85, 3) := by decide +kernel
theorem dX7_goBack_16 : decode cX7_goBack 16 = .ok (.iload_n 1, 1) := by decide +kernel
theorem dX7_goBack_17 : decode cX7_goBack 17 = .ok (.ishr, 1) := by decide +kernel
theorem dX7_goBack_18 : decode cX7_goBack 18 = .ok (.iconst 1, 1) := by decide +kernel
theorem dX7_goBack_19 : decode cX7_goBack 19 = .ok (.iand, 1) := by decide +kernel
theorem dX7_goBack_20 : decode cX7_goBack 20 = .ok (.ifCond .ne 6, 3) := by decide +kernel
theorem dX7_goBack_23 : decode cX7_goBack 23 = .ok (.ldc 185, 2) := by decide +kernel
theorem dX7_goBack_25 : decode cX7_goBack 25 = .ok (.ireturn, 1) := by decide +kernel
theorem dX7_goBack_26 : decode cX7_goBack 26 = .ok (.aload_n 0, 1) := by decide +kernel
theorem dX7_goBack_27 : decode cX7_goBack 27 = .ok (.getfield 28, 3) := by decide +kernel
theorem dX7_goBack_30 : decode cX7_goBack 30 = .ok (.aload_n 0, 1) := by decide +kernel
theorem dX7_goBack_31 : decode cX7_goBack 31 = .ok (.iload_n 1, 1) := by decide +kernel
theorem dX7_goBack_32 : decode cX7_goBack 32 = .ok (.invokevirtual 255, 3) := by decide +kernel
theorem dX7_goBack_35 : decode cX7_goBack 35 = .ok (.invokevirtual 259, 3) := by decide +kernel
theorem dX7_goBack_38 : decode cX7_goBack 38 = .ok (.iconst 1, 1) := by decide +kernel
theorem dX7_goBack_39 : decode cX7_goBack 39 = .ok (.ireturn, 1) := by decide +kernel
theorem dX7_imageAt_0 : decode cX7_imageAt 0 = .ok (.iload_n 1, 1) := by decide +kernel
theorem dX7_imageAt_1 : decode cX7_imageAt 1 = .ok (.ifCond .ne 10, 3) := by decide +kernel
theorem dX7_imageAt_4 : decode cX7_imageAt 4 = .ok (.aload_n 0, 1) := by decide +kernel
theorem dX7_imageAt_5 : decode cX7_imageAt 5 = .ok (.getfield 32, 3) := by decide +kernel
theorem dX7_imageAt_8 : decode cX7_imageAt 8 = .ok (.goto 7, 3) := by decide +kernel
theorem dX7_imageAt_11 : decode cX7_imageAt 11 = .ok (.aload_n 0, 1) := by decide +kernel
theorem dX7_imageAt_12 : decode cX7_imageAt 12 = .ok (.getfield 35, 3) := by decide +kernel
theorem dX7_imageAt_15 : decode cX7_imageAt 15 = .ok (.areturn, 1) := by decide +kernel
theorem dX8_init_0 : decode cX8_init 0 = .ok (.aload_n 0, 1) := by decide +kernel
theorem dX8_init_1 : decode cX8_init 1 = .ok (.invokespecial 1, 3) := by decide +kernel
theorem dX8_init_4 : decode cX8_init 4 = .ok (.aload_n 0, 1) := by decide +kernel
theorem dX8_init_5 : decode cX8_init 5 = .ok (.iconst 5, 1) := by decide +kernel
theorem dX8_init_6 : decode cX8_init 6 = .ok (.newarray .int, 2) := by decide +kernel
theorem dX8_init_8 : decode cX8_init 8 = .ok (.putfield 7, 3) := by decide +kernel
theorem dX8_init_11 : decode cX8_init 11 = .ok (.aload_n 0, 1) := by decide +kernel
theorem dX8_init_12 : decode cX8_init 12 = .ok (.iconst 5, 1) := by decide +kernel
theorem dX8_init_13 : decode cX8_init 13 = .ok (.newarray .int, 2) := by decide +kernel
theorem dX8_init_15 : decode cX8_init 15 = .ok (.putfield 13, 3) := by decide +kernel
theorem dX8_init_18 : decode cX8_init 18 = .ok (.aload_n 0, 1) := by decide +kernel
theorem dX8_init_19 : decode cX8_init 19 = .ok (.iconst 5, 1) := by decide +kernel
theorem dX8_init_20 : decode cX8_init 20 = .ok (.newarray .int, 2) := by decide +kernel
theorem dX8_init_22 : decode cX8_init 22 = .ok (.putfield 16, 3) := by decide +kernel
theorem dX8_init_25 : decode cX8_init 25 = .ok (.aload_n 0, 1) := by decide +kernel
theorem dX8_init_26 : decode cX8_init 26 = .ok (.bipush 8, 2) := by decide +kernel
theorem dX8_init_28 : decode cX8_init 28 = .ok (.newarray .int, 2) := by decide +kernel
theorem dX8_init_30 : decode cX8_init 30 = .ok (.putfield 19, 3) := by decide +kernel
theorem dX8_init_33 : decode cX8_init 33 = .ok (.aload_n 0, 1) := by decide +kernel
theorem dX8_init_34 : decode cX8_init 34 = .ok (.bipush 8, 2) := by decide +kernel
theorem dX8_init_36 : decode cX8_init 36 = .ok (.newarray .int, 2) := by decide +kernel
theorem dX8_init_38 : decode cX8_init 38 = .ok (.putfield 22, 3) := by decide +kernel
theorem dX8_init_41 : decode cX8_init 41 = .ok (.aload_n 0, 1) := by decide +kernel
theorem dX8_init_42 : decode cX8_init 42 = .ok (.bipush 8, 2) := by decide +kernel
theorem dX8_init_44 : decode cX8_init 44 = .ok (.newarray .int, 2) := by decide +kernel
theorem dX8_init_46 : decode cX8_init 46 = .ok (.putfield 25, 3) := by decide +kernel
theorem dX8_init_49 : decode cX8_init 49 = .ok (.aload_n 0, 1) := by decide +kernel
theorem dX8_init_50 : decode cX8_init 50 = .ok (.bipush 8, 2) := by decide +kernel
theorem dX8_init_52 : decode cX8_init 52 = .ok (.newarray .int, 2) := by decide +kernel
theorem dX8_init_54 : decode cX8_init 54 = .ok (.putfield 28, 3) := by decide +kernel
theorem dX8_init_57 : decode cX8_init 57 = .ok (.aload_n 0, 1) := by decide +kernel
theorem dX8_init_58 : decode cX8_init 58 = .ok (.bipush 8, 2) := by decide +kernel
theorem dX8_init_60 : decode cX8_init 60 = .ok (.newarray .int, 2) := by decide +kernel
theorem dX8_init_62 : decode cX8_init 62 = .ok (.putfield 31, 3) := by decide +kernel
theorem dX8_init_65 : decode cX8_init 65 = .ok (.aload_n 0, 1) := by decide +kernel
theorem dX8_init_66 : decode cX8_init 66 = .ok (.iconst (-1), 1) := by decide +kernel
theorem dX8_init_67 : decode cX8_init 67 = .ok (.putfield 34, 3) := by decide +kernel
theorem dX8_init_70 : decode cX8_init 70 = .ok (.aload_n 0, 1) := by decide +kernel
theorem dX8_init_71 : decode cX8_init 71 = .ok (.iconst (-1), 1) := by decide +kernel
theorem dX8_init_72 : decode cX8_init 72 = .ok (.putfield 38, 3) := by decide +kernel
theorem dX8_init_75 : decode cX8_init 75 = .ok (.aload_n 0, 1) := by decide +kernel
theorem dX8_init_76 : decode cX8_init 76 = .ok (.iconst (-1), 1) := by decide +kernel
theorem dX8_init_77 : decode cX8_init 77 = .ok (.putfield 41, 3) := by decide +kernel
theorem dX8_init_80 : decode cX8_init 80 = .ok (.aload_n 0, 1) := by decide +kernel
theorem dX8_init_81 : decode cX8_init 81 = .ok (.iconst 5, 1) := by decide +kernel
theorem dX8_init_82 : decode cX8_init 82 = .ok (.newarray .int, 2) := by decide +kernel
theorem dX8_init_84 : decode cX8_init 84 = .ok (.putfield 44, 3) := by decide +kernel
theorem dX8_init_87 : decode cX8_init 87 = .ok (.aload_n 0, 1) := by decide +kernel
theorem dX8_init_88 : decode cX8_init 88 = .ok (.iconst 5, 1) := by decide +kernel
theorem dX8_init_89 : decode cX8_init 89 = .ok (.newarray .int, 2) := by decide +kernel
theorem dX8_init_91 : decode cX8_init 91 = .ok (.putfield 47, 3) := by decide +kernel
theorem dX8_init_94 : decode cX8_init 94 = .ok (.aload_n 0, 1) := by decide +kernel
theorem dX8_init_95 : decode cX8_init 95 = .ok (.sipush 200, 3) := by decide +kernel
theorem dX8_init_98 : decode cX8_init 98 = .ok (.newarray .int, 2) := by decide +kernel
theorem dX8_init_100 : decode cX8_init 100 = .ok (.putfield 50, 3) := by decide +kernel
theorem dX8_init_103 : decode cX8_init 103 = .ok (.aload_n 0, 1) := by decide +kernel
theorem dX8_init_104 : decode cX8_init 104 = .ok (.sipush 200, 3) := by decide +kernel
theorem dX8_init_107 : decode cX8_init 107 = .ok (.newarray .int, 2) := by decide +kernel
theorem dX8_init_109 : decode cX8_init 109 = .ok (.putfield 53, 3) := by decide +kernel
theorem dX8_init_112 : decode cX8_init 112 = .ok (.aload_n 0, 1) := by decide +kernel
theorem dX8_init_113 : decode cX8_init 113 = .ok (.sipush 400, 3) := by decide +kernel
theorem dX8_init_116 : decode cX8_init 116 = .ok (.newarray .int, 2) := by decide +kernel
theorem dX8_init_118 : decode cX8_init 118 = .ok (.putfield 56, 3) := by decide +kernel
theorem dX8_init_121 : decode cX8_init 121 = .ok (.aload_n 0, 1) := by decide +kernel
theorem dX8_init_122 : decode cX8_init 122 = .ok (.iconst (-1), 1) := by decide +kernel
theorem dX8_init_123 : decode cX8_init 123 = .ok (.putfield 59, 3) := by decide +kernel
theorem dX8_init_126 : decode cX8_init 126 = .ok (.aload_n 0, 1) := by decide +kernel
theorem dX8_init_127 : decode cX8_init 127 = .ok (.iconst 5, 1) := by decide +kernel
theorem dX8_init_128 : decode cX8_init 128 = .ok (.newarray .int, 2) := by decide +kernel
theorem dX8_init_130 : decode cX8_init 130 = .ok (.putfield 62, 3) := by decide +kernel
theorem dX8_init_133 : decode cX8_init 133 = .ok (.aload_n 0, 1) := by decide +kernel
theorem dX8_init_134 : decode cX8_init 134 = .ok (.iconst 5, 1) := by decide +kernel
theorem dX8_init_135 : decode cX8_init 135 = .ok (.newarray .int, 2) := by decide +kernel
theorem dX8_init_137 : decode cX8_init 137 = .ok (.putfield 65, 3) := by decide +kernel
theorem dX8_init_140 : decode cX8_init 140 = .ok (.aload_n 0, 1) := by decide +kernel
theorem dX8_init_141 : decode cX8_init 141 = .ok (.iconst 5, 1) := by decide +kernel
theorem dX8_init_142 : decode cX8_init 142 = .ok (.newarray .int, 2) := by decide +kernel
theorem dX8_init_144 : decode cX8_init 144 = .ok (.putfield 68, 3) := by decide +kernel
theorem dX8_init_147 : decode cX8_init 147 = .ok (.aload_n 0, 1) := by decide +kernel
theorem dX8_init_148 : decode cX8_init 148 = .ok (.bipush 8, 2) := by decide +kernel
theorem dX8_init_150 : decode cX8_init 150 = .ok (.newarray .int, 2) := by decide +kernel
theorem dX8_init_152 : decode cX8_init 152 = .ok (.putfield 71, 3) := by decide +kernel
theorem dX8_init_155 : decode cX8_init 155 = .ok (.aload_n 0, 1) := by decide +kernel
theorem dX8_init_156 : decode cX8_init 156 = .ok (.bipush 8, 2) := by decide +kernel
theorem dX8_init_158 : decode cX8_init 158 = .ok (.newarray .int, 2) := by decide +kernel
theorem dX8_init_160 : decode cX8_init 160 = .ok (.putfield 74, 3) := by decide +kernel
theorem dX8_init_163 : decode cX8_init 163 = .ok (.aload_n 0, 1) := by decide +kernel
theorem dX8_init_164 : decode cX8_init 164 = .ok (.bipush 8, 2) := by decide +kernel
theorem dX8_init_166 : decode cX8_init 166 = .ok (.newarray .int, 2) := by decide +kernel
theorem dX8_init_168 : decode cX8_init 168 = .ok (.putfield 77, 3) := by decide +kernel
theorem dX8_init_171 : decode cX8_init 171 = .ok (.aload_n 0, 1) := by decide +kernel
theorem dX8_init_172 : decode cX8_init 172 = .ok (.bipush 8, 2) := by decide +kernel
theorem dX8_init_174 : decode cX8_init 174 = .ok (.newarray .int, 2) := by decide +kernel
theorem dX8_init_176 : decode cX8_init 176 = .ok (.putfield 80, 3) := by decide +kernel
theorem dX8_init_179 : decode cX8_init 179 = .ok (.aload_n 0, 1) := by decide +kernel
theorem dX8_init_180 : decode cX8_init 180 = .ok (.bipush 8, 2) := by decide +kernel
theorem dX8_init_182 : decode cX8_init 182 = .ok (.newarray .int, 2) := by decide +kernel
theorem dX8_init_184 : decode cX8_init 184 = .ok (.putfield 83, 3) := by decide +kernel
theorem dX8_init_187 : decode cX8_init 187 = .ok (.aload_n 0, 1) := by decide +kernel
theorem dX8_init_188 : decode cX8_init 188 = .ok (.bipush 8, 2) := by decide +kernel
theorem dX8_init_190 : decode cX8_init 190 = .ok (.newarray .int, 2) := by decide +kernel
theorem dX8_init_192 : decode cX8_init 192 = .ok (.putfield 86, 3) := by decide +kernel
theorem dX8_init_195 : decode cX8_init 195 = .ok (.aload_n 0, 1) := by decide +kernel
theorem dX8_init_196 : decode cX8_init 196 = .ok (.bipush 8, 2) := by decide +kernel
theorem dX8_init_198 : decode cX8_init 198 = .ok (.newarray .int, 2) := by decide +kernel
theorem dX8_init_200 : decode cX8_init 200 = .ok (.putfield 89, 3) := by decide +kernel
theorem dX8_init_203 : decode cX8_init 203 = .ok (.aload_n 0, 1) := by decide +kernel
theorem dX8_init_204 : decode cX8_init 204 = .ok (.bipush 8, 2) := by decide +kernel
theorem dX8_init_206 : decode cX8_init 206 = .ok (.newarray .long, 2) := by decide +kernel
theorem dX8_init_208 : decode cX8_init 208 = .ok (.putfield 92, 3) := by decide +kernel
theorem dX8_init_211 : decode cX8_init 211 = .ok (.aload_n 0, 1) := by decide +kernel
theorem dX8_init_212 : decode cX8_init 212 = .ok (.bipush 40, 2) := by decide +kernel
theorem dX8_init_214 : decode cX8_init 214 = .ok (.newarray .int, 2) := by decide +kernel
theorem dX8_init_216 : decode cX8_init 216 = .ok (.putfield 96, 3) := by decide +kernel
theorem dX8_init_219 : decode cX8_init 219 = .ok (.aload_n 0, 1) := by decide +kernel
theorem dX8_init_220 : decode cX8_init 220 = .ok (.bipush 40, 2) := by decide +kernel
theorem dX8_init_222 : decode cX8_init 222 = .ok (.newarray .int, 2) := by decide +kernel
theorem dX8_init_224 : decode cX8_init 224 = .ok (.putfield 99, 3) := by decide +kernel
theorem dX8_init_227 : decode cX8_init 227 = .ok (.aload_n 0, 1) := by decide +kernel
theorem dX8_init_228 : decode cX8_init 228 = .ok (.sipush 860, 3) := by decide +kernel
theorem dX8_init_231 : decode cX8_init 231 = .ok (.newarray .int, 2) := by decide +kernel
theorem dX8_init_233 : decode cX8_init 233 = .ok (.putfield 102, 3) := by decide +kernel
theorem dX8_init_236 : decode cX8_init 236 = .ok (.aload_n 0, 1) := by decide +kernel
theorem dX8_init_237 : decode cX8_init 237 = .ok (.iconst 2, 1) := by decide +kernel
theorem dX8_init_238 : decode cX8_init 238 = .ok (.newarray .boolean, 2) := by decide +kernel
theorem dX8_init_240 : decode cX8_init 240 = .ok (.putfield 105, 3) := by decide +kernel
theorem dX8_init_243 : decode cX8_init 243 = .ok (.aload_n 0, 1) := by decide +kernel
theorem dX8_init_244 : decode cX8_init 244 = .ok (.iconst 0, 1) := by decide +kernel
theorem dX8_init_245 : decode cX8_init 245 = .ok (.putfield 109, 3) := by decide +kernel
theorem dX8_init_248 : decode cX8_init 248 = .ok (.return_, 1) := by decide +kernel
theorem dX8_in_0 : decode cX8_in 0 = .ok (.lload_n 0, 1) := by decide +kernel
theorem dX8_in_1 : decode cX8_in 1 = .ok (.lload_n 2, 1) := by decide +kernel
theorem dX8_in_2 : decode cX8_in 2 = .ok (.lcmp, 1) := by decide +kernel
theorem dX8_in_3 : decode cX8_in 3 = .ok (.ifCond .lt 14, 3) := by decide +kernel
theorem dX8_in_6 : decode cX8_in 6 = .ok (.lload_n 0, 1) := by decide +kernel
theorem dX8_in_7 : decode cX8_in 7 = .ok (.lload 4, 2) := by decide +kernel
theorem dX8_in_9 : decode cX8_in 9 = .ok (.lcmp, 1) := by decide +kernel
theorem dX8_in_10 : decode cX8_in 10 = .ok (.ifCond .gt 7, 3) := by decide +kernel
theorem dX8_in_13 : decode cX8_in 13 = .ok (.iconst 1, 1) := by decide +kernel
theorem dX8_in_14 : decode cX8_in 14 = .ok (.goto 4, 3) := by decide +kernel
theorem dX8_in_17 : decode cX8_in 17 = .ok (.iconst 0, 1) := by decide +kernel
theorem dX8_in_18 : decode cX8_in 18 = .ok (.ireturn, 1) := by decide +kernel
theorem dX8_has_0 : decode cX8_has 0 = .ok (.iload_n 0, 1) := by decide +kernel
theorem dX8_has_1 : decode cX8_has 1 = .ok (.iload_n 1, 1) := by decide +kernel
theorem dX8_has_2 : decode cX8_has 2 = .ok (.ishr, 1) := by decide +kernel
theorem dX8_has_3 : decode cX8_has 3 = .ok (.iconst 1, 1) := by decide +kernel
theorem dX8_has_4 : decode cX8_has 4 = .ok (.iand, 1) := by decide +kernel
theorem dX8_has_5 : decode cX8_has 5 = .ok (.iconst 1, 1) := by decide +kernel
theorem dX8_has_6 : decode cX8_has 6 = .ok (.if_icmp .ne 7, 3) := by decide +kernel
theorem dX8_has_9 : decode cX8_has 9 = .ok (.iconst 1, 1) := by decide +kernel
theorem dX8_has_10 : decode cX8_has 10 = .ok (.goto 4, 3) := by decide +kernel
theorem dX8_has_13 : decode cX8_has 13 = .ok (.iconst 0, 1) := by decide +kernel
theorem dX8_has_14 : decode cX8_has 14 = .ok (.ireturn, 1) := by decide +kernel
theorem dX8_isHouse_0 : decode cX8_isHouse 0 = .ok (.iload_n 1, 1) := by decide +kernel
theorem dX8_isHouse_1 : decode cX8_isHouse 1 = .ok (.i2l, 1) := by decide +kernel
theorem dX8_isHouse_2 : decode cX8_isHouse 2 = .ok (.lconst 0, 1) := by decide +kernel
theorem dX8_isHouse_3 : decode cX8_isHouse 3 = .ok (.aload_n 0, 1) := by decide +kernel
theorem dX8_isHouse_4 : decode cX8_isHouse 4 = .ok (.getfield 109, 3) := by decide +kernel
theorem dX8_isHouse_7 : decode cX8_isHouse 7 = .ok (.iconst 1, 1) := by decide +kernel
theorem dX8_isHouse_8 : decode cX8_isHouse 8 = .ok (.isub, 1) := by decide +kernel
theorem dX8_isHouse_9 : decode cX8_isHouse 9 = .ok (.i2l, 1) := by decide +kernel
theorem dX8_isHouse_10 : decode cX8_isHouse 10 = .ok (.invokestatic 112, 3) := by decide +kernel
theorem dX8_isHouse_13 : decode cX8_isHouse 13 = .ok (.ireturn, 1) := by decide +kernel
theorem dX8_isSleeper_0 : decode cX8_isSleeper 0 = .ok (.iload_n 1, 1) := by decide +kernel
theorem dX8_isSleeper_1 : decode cX8_isSleeper 1 = .ok (.i2l, 1) := by decide +kernel
theorem dX8_isSleeper_2 : decode cX8_isSleeper 2 = .ok (.lconst 0, 1) := by decide +kernel
theorem dX8_isSleeper_3 : decode cX8_isSleeper 3 = .ok (.aload_n 0, 1) := by decide +kernel
theorem dX8_isSleeper_4 : decode cX8_isSleeper 4 = .ok (.getfield 116, 3) := by decide +kernel
theorem dX8_isSleeper_7 : decode cX8_isSleeper 7 = .ok (.iconst 1, 1) := by decide +kernel
theorem dX8_isSleeper_8 : decode cX8_isSleeper 8 = .ok (.isub, 1) := by decide +kernel
theorem dX8_isSleeper_9 : decode cX8_isSleeper 9 = .ok (.i2l, 1) := by decide +kernel
theorem dX8_isSleeper_10 : decode cX8_isSleeper 10 = .ok (.invokestatic 112, 3) := by decide +kernel
theorem dX8_isSleeper_13 : decode cX8_isSleeper 13 = .ok (.ireturn, 1) := by decide +kernel
theorem dX8_begin_0 : decode cX8_begin 0 = .ok (.iconst 0, 1) := by decide +kernel
theorem dX8_begin_1 : decode cX8_begin 1 = .ok (.istore_n 1, 1) := by decide +kernel
theorem dX8_begin_2 : decode cX8_begin 2 = .ok (.iload_n 1, 1) := by decide +kernel
theorem dX8_begin_3 : decode cX8_begin 3 = .ok (.bipush 8, 2) := by decide +kernel
theorem dX8_begin_5 : decode cX8_begin 5 = .ok (.if_icmp .ge 16, 3) := by decide +kernel
theorem dX8_begin_8 : decode cX8_begin 8 = .ok (.aload_n 0, 1) := by decide +kernel
theorem dX8_begin_9 : decode cX8_begin 9 = .ok (.getfield 31, 3) := by decide +kernel
theorem dX8_begin_12 : decode cX8_begin 12 = .ok (.iload_n 1, 1) := by decide +kernel
theorem dX8_begin_13 : decode cX8_begin 13 = .ok (.iconst 0, 1) := by decide +kernel
theorem dX8_begin_14 : decode cX8_begin 14 = .ok (.iastore, 1) := by decide +kernel
theorem dX8_begin_15 : decode cX8_begin 15 = .ok (.iinc 1 1, 3) := by decide +kernel
theorem dX8_begin_18 : decode cX8_begin 18 = .ok (.goto (-16), 3) := by decide +kernel
theorem dX8_begin_21 : decode cX8_begin 21 = .ok (.aload_n 0, 1) := by decide +kernel
theorem dX8_begin_22 : decode cX8_begin 22 = .ok (.iconst (-1), 1) := by decide +kernel
theorem dX8_begin_23 : decode cX8_begin 23 = .ok (.putfield 34, 3) := by decide +kernel
theorem dX8_begin_26 : decode cX8_begin 26 = .ok (.aload_n 0, 1) := by decide +kernel
theorem dX8_begin_27 : decode cX8_begin 27 = .ok (.iconst (-1), 1) := by decide +kernel
theorem dX8_begin_28 : decode cX8_begin 28 = .ok (.putfield 38, 3) := by decide +kernel
theorem dX8_begin_31 : decode cX8_begin 31 = .ok (.aload_n 0, 1) := by decide +kernel
theorem dX8_begin_32 : decode cX8_begin 32 = .ok (.iconst (-1), 1) := by decide +kernel
theorem dX8_begin_33 : decode cX8_begin 33 = .ok (.putfield 41, 3) := by decide +kernel
theorem dX8_begin_36 : decode cX8_begin 36 = .ok (.aload_n 0, 1) := by decide +kernel
theorem dX8_begin_37 : decode cX8_begin 37 = .ok (.iconst 0, 1) := by decide +kernel
theorem dX8_begin_38 : decode cX8_begin 38 = .ok (.putfield 119, 3) := by decide +kernel
theorem dX8_begin_41 : decode cX8_begin 41 = .ok (.aload_n 0, 1) := by decide +kernel
theorem dX8_begin_42 : decode cX8_begin 42 = .ok (.iconst 0, 1) := by decide +kernel
theorem dX8_begin_43 : decode cX8_begin 43 = .ok (.putfield 122, 3) := by decide +kernel
theorem dX8_begin_46 : decode cX8_begin 46 = .ok (.iconst 0, 1) := by decide +kernel
theorem dX8_begin_47 : decode cX8_begin 47 = .ok (.istore_n 1, 1) := by decide +kernel
theorem dX8_begin_48 : decode cX8_begin 48 = .ok (.iload_n 1, 1) := by decide +kernel
theorem dX8_begin_49 : decode cX8_begin 49 = .ok (.iconst 5, 1) := by decide +kernel
theorem dX8_begin_50 : decode cX8_begin 50 = .ok (.if_icmp .ge 23, 3) := by decide +kernel
theorem dX8_begin_53 : decode cX8_begin 53 = .ok (.aload_n 0, 1) := by decide +kernel
theorem dX8_begin_54 : decode cX8_begin 54 = .ok (.getfield 44, 3) := by decide +kernel
theorem dX8_begin_57 : decode cX8_begin 57 = .ok (.iload_n 1, 1) := by decide +kernel
theorem dX8_begin_58 : decode cX8_begin 58 = .ok (.iconst 0, 1) := by decide +kernel
theorem dX8_begin_59 : decode cX8_begin 59 = .ok (.iastore, 1) := by decide +kernel
theorem dX8_begin_60 : decode cX8_begin 60 = .ok (.aload_n 0, 1) := by decide +kernel
theorem dX8_begin_61 : decode cX8_begin 61 = .ok (.getfield 47, 3) := by decide +kernel
theorem dX8_begin_64 : decode cX8_begin 64 = .ok (.iload_n 1, 1) := by decide +kernel
theorem dX8_begin_65 : decode cX8_begin 65 = .ok (.iconst 0, 1) := by decide +kernel
theorem dX8_begin_66 : decode cX8_begin 66 = .ok (.iastore, 1) := by decide +kernel
theorem dX8_begin_67 : decode cX8_begin 67 = .ok (.iinc 1 1, 3) := by decide +kernel
theorem dX8_begin_70 : decode cX8_begin 70 = .ok (.goto (-22), 3) := by decide +kernel
theorem dX8_begin_73 : decode cX8_begin 73 = .ok (.aload_n 0, 1) := by decide +kernel
theorem dX8_begin_74 : decode cX8_begin 74 = .ok (.iconst 0, 1) := by decide +kernel
theorem dX8_begin_75 : decode cX8_begin 75 = .ok (.putfield 125, 3) := by decide +kernel
theorem dX8_begin_78 : decode cX8_begin 78 = .ok (.aload_n 0, 1) := by decide +kernel
theorem dX8_begin_79 : decode cX8_begin 79 = .ok (.iconst 0, 1) := by decide +kernel
theorem dX8_begin_80 : decode cX8_begin 80 = .ok (.putfield 128, 3) := by decide +kernel
theorem dX8_begin_83 : decode cX8_begin 83 = .ok (.return_, 1) := by decide +kernel
theorem dX8_feed_0 : decode cX8_feed 0 = .ok (.iload_n 1, 1) := by decide +kernel
theorem dX8_feed_1 : decode cX8_feed 1 = .ok (.i2l, 1) := by decide +kernel
theorem dX8_feed_2 : decode cX8_feed 2 = .ok (.lconst 1, 1) := by decide +kernel
theorem dX8_feed_3 : decode cX8_feed 3 = .ok (.ldc2_w 131, 3) := by decide +kernel
theorem dX8_feed_6 : decode cX8_feed 6 = .ok (.invokestatic 112, 3) := by decide +kernel
theorem dX8_feed_9 : decode cX8_feed 9 = .ok (.ifCond .ne 6, 3) := by decide +kernel
theorem dX8_feed_12 : decode cX8_feed 12 = .ok (.ldc 133, 2) := by decide +kernel
theorem dX8_feed_14 : decode cX8_feed 14 = .ok (.ireturn, 1) := by decide +kernel
theorem dX8_feed_15 : decode cX8_feed 15 = .ok (.aload_n 0, 1) := by decide +kernel
theorem dX8_feed_16 : decode cX8_feed 16 = .ok (.getfield 134, 3) := by decide +kernel
theorem dX8_feed_19 : decode cX8_feed 19 = .ok (.iload_n 1, 1) := by decide +kernel
theorem dX8_feed_20 : decode cX8_feed 20 = .ok (.iadd, 1) := by decide +kernel
theorem dX8_feed_21 : decode cX8_feed 21 = .ok (.sipush 400, 3) := by decide +kernel
theorem dX8_feed_24 : decode cX8_feed 24 = .ok (.if_icmp .le 6, 3) := by decide +kernel
theorem dX8_feed_27 : decode cX8_feed 27 = .ok (.ldc 137, 2) := by decide +kernel
theorem dX8_feed_29 : decode cX8_feed 29 = .ok (.ireturn, 1) := by decide +kernel
theorem dX8_feed_30 : decode cX8_feed 30 = .ok (.iload_n 1, 1) := by decide +kernel
theorem dX8_feed_31 : decode cX8_feed 31 = .ok (.iconst 1, 1) := by decide +kernel
theorem dX8_feed_32 : decode cX8_feed 32 = .ok (.isub, 1) := by decide +kernel
theorem dX8_feed_33 : decode cX8_feed 33 = .ok (.istore 4, 2) := by decide +kernel
theorem dX8_feed_35 : decode cX8_feed 35 = .ok (.iload 4, 2) := by decide +kernel
theorem dX8_feed_37 : decode cX8_feed 37 = .ok (.ifCond .lt 40, 3) := by decide +kernel
theorem dX8_feed_40 : decode cX8_feed 40 = .ok (.aload_n 0, 1) := by decide +kernel
theorem dX8_feed_41 : decode cX8_feed 41 = .ok (.getfield 56, 3) := by decide +kernel
theorem dX8_feed_44 : decode cX8_feed 44 = .ok (.aload_n 0, 1) := by decide +kernel
theorem dX8_feed_45 : decode cX8_feed 45 = .ok (.getfield 134, 3) := by decide +kernel
theorem dX8_feed_48 : decode cX8_feed 48 = .ok (.lload_n 2, 1) := by decide +kernel
theorem dX8_feed_49 : decode cX8_feed 49 = .ok (.bipush 8, 2) := by decide +kernel
theorem dX8_feed_51 : decode cX8_feed 51 = .ok (.iload 4, 2) := by decide +kernel
theorem dX8_feed_53 : decode cX8_feed 53 = .ok (.imul, 1) := by decide +kernel
theorem dX8_feed_54 : decode cX8_feed 54 = .ok (.lshr, 1) := by decide +kernel
theorem dX8_feed_55 : decode cX8_feed 55 = .ok (.ldc2_w 138, 3) := by decide +kernel
theorem dX8_feed_58 : decode cX8_feed 58 = .ok (.land, 1) := by decide +kernel
theorem dX8_feed_59 : decode cX8_feed 59 = .ok (.l2i, 1) := by decide +kernel
theorem dX8_feed_60 : decode cX8_feed 60 = .ok (.iastore, 1) := by decide +kernel
theorem dX8_feed_61 : decode cX8_feed 61 = .ok (.aload_n 0, 1) := by decide +kernel
theorem dX8_feed_62 : decode cX8_feed 62 = .ok (.dup, 1) := by decide +kernel
theorem dX8_feed_63 : decode cX8_feed 63 = .ok (.getfield 134, 3) := by decide +kernel
theorem dX8_feed_66 : decode cX8_feed 66 = .ok (.iconst 1, 1) := by decide +kernel
theorem dX8_feed_67 : decode cX8_feed 67 = .ok (.iadd, 1) := by decide +kernel
theorem dX8_feed_68 : decode cX8_feed 68 = .ok (.putfield 134, 3) := by decide +kernel
theorem dX8_feed_71 : decode cX8_feed 71 = .ok (.iinc 4 (-1), 3) := by decide +kernel
theorem dX8_feed_74 : decode cX8_feed 74 = .ok (.goto (-39), 3) := by decide +kernel
theorem dX8_feed_77 : decode cX8_feed 77 = .ok (.aload_n 0, 1) := by decide +kernel
theorem dX8_feed_78 : decode cX8_feed 78 = .ok (.getfield 134, 3) := by decide +kernel
theorem dX8_feed_81 : decode cX8_feed 81 = .ok (.ireturn, 1) := by decide +kernel
theorem dX8_here_0 : decode cX8_here 0 = .ok (.aload_n 0, 1) := by decide +kernel
theorem dX8_here_1 : decode cX8_here 1 = .ok (.getfield 140, 3) := by decide +kernel
theorem dX8_here_4 : decode cX8_here 4 = .ok (.aload_n 0, 1) := by decide +kernel
theorem dX8_here_5 : decode cX8_here 5 = .ok (.getfield 134, 3) := by decide +kernel
theorem dX8_here_8 : decode cX8_here 8 = .ok (.if_icmp .ge 30, 3) := by decide +kernel
theorem dX8_here_11 : decode cX8_here 11 = .ok (.aload_n 0, 1) := by decide +kernel
theorem dX8_here_12 : decode cX8_here 12 = .ok (.getfield 56, 3) := by decide +kernel
theorem dX8_here_15 : decode cX8_here 15 = .ok (.aload_n 0, 1) := by decide +kernel
theorem dX8_here_16 : decode cX8_here 16 = .ok (.getfield 140, 3) := by decide +kernel
theorem dX8_here_19 : decode cX8_here 19 = .ok (.iaload, 1) := by decide +kernel
theorem dX8_here_20 : decode cX8_here 20 = .ok (.bipush 32, 2) := by decide +kernel
theorem dX8_here_22 : decode cX8_here 22 = .ok (.if_icmp .ne 16, 3) := by decide +kernel
theorem dX8_here_25 : decode cX8_here 25 = .ok (.aload_n 0, 1) := by decide +kernel
theorem dX8_here_26 : decode cX8_here 26 = .ok (.dup, 1) := by decide +kernel
theorem dX8_here_27 : decode cX8_here 27 = .ok (.getfield 140, 3) := by decide +kernel
theorem dX8_here_30 : decode cX8_here 30 = .ok (.iconst 1, 1) := by decide +kernel
theorem dX8_here_31 : decode cX8_here 31 = .ok (.iadd, 1) := by decide +kernel
theorem dX8_here_32 : decode cX8_here 32 = .ok (.putfield 140, 3) := by decide +kernel
theorem dX8_here_35 : decode cX8_here 35 = .ok (.goto (-35), 3) := by decide +kernel
theorem dX8_here_38 : decode cX8_here 38 = .ok (.aload_n 0, 1) := by decide +kernel
theorem dX8_here_39 : decode cX8_here 39 = .ok (.getfield 140, 3) := by decide +kernel
theorem dX8_here_42 : decode cX8_here 42 = .ok (.aload_n 0, 1) := by decide +kernel
theorem dX8_here_43 : decode cX8_here 43 = .ok (.getfield 134, 3) := by decide +kernel
theorem dX8_here_46 : decode cX8_here 46 = .ok (.if_icmp .ge 15, 3) := by decide +kernel
theorem dX8_here_49 : decode cX8_here 49 = .ok (.aload_n 0, 1) := by decide +kernel
theorem dX8_here_50 : decode cX8_here 50 = .ok (.getfield 56, 3) := by decide +kernel
theorem dX8_here_53 : decode cX8_here 53 = .ok (.aload_n 0, 1) := by decide +kernel
theorem dX8_here_54 : decode cX8_here 54 = .ok (.getfield 140, 3) := by decide +kernel
theorem dX8_here_57 : decode cX8_here 57 = .ok (.iaload, 1) := by decide +kernel
theorem dX8_here_58 : decode cX8_here 58 = .ok (.goto 4, 3) := by decide +kernel
theorem dX8_here_61 : decode cX8_here 61 = .ok (.iconst (-1), 1) := by decide +kernel
theorem dX8_here_62 : decode cX8_here 62 = .ok (.ireturn, 1) := by decide +kernel
theorem dX8_fails_0 : decode cX8_fails 0 = .ok (.aload_n 0, 1) := by decide +kernel
theorem dX8_fails_1 : decode cX8_fails 1 = .ok (.iload_n 2, 1) := by decide +kernel
theorem dX8_fails_2 : decode cX8_fails 2 = .ok (.putfield 59, 3) := by decide +kernel
theorem dX8_fails_5 : decode cX8_fails 5 = .ok (.iload_n 1, 1) := by decide +kernel
theorem dX8_fails_6 : decode cX8_fails 6 = .ok (.ireturn, 1) := by decide +kernel
theorem dX8_readWord_0 : decode cX8_readWord 0 = .ok (.aload_n 0, 1) := by decide +kernel
theorem dX8_readWord_1 : decode cX8_readWord 1 = .ok (.invokevirtual 143, 3) := by decide +kernel
theorem dX8_readWord_4 : decode cX8_readWord 4 = .ok (.istore_n 1, 1) := by decide +kernel
theorem dX8_readWord_5 : decode cX8_readWord 5 = .ok (.aload_n 0, 1) := by decide +kernel
theorem dX8_readWord_6 : decode cX8_readWord 6 = .ok (.lconst 0, 1) := by decide +kernel
theorem dX8_readWord_7 : decode cX8_readWord 7 = .ok (.putfield 147, 3) := by decide +kernel
theorem dX8_readWord_10 : decode cX8_readWord 10 = .ok (.aload_n 0, 1) := by decide +kernel
theorem dX8_readWord_11 : decode cX8_readWord 11 = .ok (.aload_n 0, 1) := by decide +kernel
theorem dX8_readWord_12 : decode cX8_readWord 12 = .ok (.getfield 140, 3) := by decide +kernel
theorem dX8_readWord_15 : decode cX8_readWord 15 = .ok (.putfield 151, 3) := by decide +kernel
theorem dX8_readWord_18 : decode cX8_readWord 18 = .ok (.aload_n 0, 1) := by decide +kernel
theorem dX8_readWord_19 : decode cX8_readWord 19 = .ok (.getfield 151, 3) := by decide +kernel
theorem dX8_readWord_22 : decode cX8_readWord 22 = .ok (.aload_n 0, 1) := by decide +kernel
theorem dX8_readWord_23 : decode cX8_readWord 23 = .ok (.getfield 134, 3) := by decide +kernel
theorem dX8_readWord_26 : decode cX8_readWord 26 = .ok (.if_icmp .ge 82, 3) := by decide +kernel
theorem dX8_readWord_29 : decode cX8_readWord 29 = .ok (.aload_n 0, 1) := by decide +kernel
theorem dX8_readWord_30 : decode cX8_readWord 30 = .ok (.getfield 56, 3) := by decide +kernel
theorem dX8_readWord_33 : decode cX8_readWord 33 = .ok (.aload_n 0, 1) := by decide +kernel
theorem dX8_readWord_34 : decode cX8_readWord 34 = .ok (.getfield 151, 3) := by decide +kernel
theorem dX8_readWord_37 : decode cX8_readWord 37 = .ok (.iaload, 1) := by decide +kernel
theorem dX8_readWord_38 : decode cX8_readWord 38 = .ok (.i2l, 1) := by decide +kernel
theorem dX8_readWord_39 : decode cX8_readWord 39 = .ok (.ldc2_w 154, 3) := by decide +kernel
theorem dX8_readWord_42 : decode cX8_readWord 42 = .ok (.ldc2_w 156, 3) := by decide +kernel
theorem dX8_readWord_45 : decode cX8_readWord 45 = .ok (.invokestatic 112, 3) := by decide +kernel
theorem dX8_readWord_48 : decode cX8_readWord 48 = .ok (.ifCond .eq 60, 3) := by decide +kernel
theorem dX8_readWord_51 : decode cX8_readWord 51 = .ok (.aload_n 0, 1) := by decide +kernel
theorem dX8_readWord_52 : decode cX8_readWord 52 = .ok (.aload_n 0, 1) := by decide +kernel
theorem dX8_readWord_53 : decode cX8_readWord 53 = .ok (.getfield 147, 3) := by decide +kernel
theorem dX8_readWord_56 : decode cX8_readWord 56 = .ok (.ldc2_w 158, 3) := by decide +kernel
theorem dX8_readWord_59 : decode cX8_readWord 59 = .ok (.lcmp, 1) := by decide +kernel
theorem dX8_readWord_60 : decode cX8_readWord 60 = .ok (.ifCond .le 9, 3) := by decide +kernel
theorem dX8_readWord_63 : decode cX8_readWord 63 = .ok (.ldc2_w 160, 3) := by decide +kernel
theorem dX8_readWord_66 : decode cX8_readWord 66 = .ok (.goto 26, 3) := by decide +kernel
theorem dX8_readWord_69 : decode cX8_readWord 69 = .ok (.ldc2_w 162, 3) := by decide +kernel
theorem dX8_readWord_72 : decode cX8_readWord 72 = .ok (.aload_n 0, 1) := by decide +kernel
theorem dX8_readWord_73 : decode cX8_readWord 73 = .ok (.getfield 147, 3) := by decide +kernel
theorem dX8_readWord_76 : decode cX8_readWord 76 = .ok (.lmul, 1) := by decide +kernel
theorem dX8_readWord_77 : decode cX8_readWord 77 = .ok (.aload_n 0, 1) := by decide +kernel
theorem dX8_readWord_78 : decode cX8_readWord 78 = .ok (.getfield 56, 3) := by decide +kernel
theorem dX8_readWord_81 : decode cX8_readWord 81 = .ok (.aload_n 0, 1) := by decide +kernel
theorem dX8_readWord_82 : decode cX8_readWord 82 = .ok (.getfield 151, 3) := by decide +kernel
theorem dX8_readWord_85 : decode cX8_readWord 85 = .ok (.iaload, 1) := by decide +kernel
theorem dX8_readWord_86 : decode cX8_readWord 86 = .ok (.i2l, 1) := by decide +kernel
theorem dX8_readWord_87 : decode cX8_readWord 87 = .ok (.ladd, 1) := by decide +kernel
theorem dX8_readWord_88 : decode cX8_readWord 88 = .ok (.ldc2_w 164, 3) := by decide +kernel
theorem dX8_readWord_91 : decode cX8_readWord 91 = .ok (.lsub, 1) := by decide +kernel
theorem dX8_readWord_92 : decode cX8_readWord 92 = .ok (.putfield 147, 3) := by decide +kernel
theorem dX8_readWord_95 : decode cX8_readWord 95 = .ok (.aload_n 0, 1) := by decide +kernel
theorem dX8_readWord_96 : decode cX8_readWord 96 = .ok (.dup, 1) := by decide +kernel
theorem dX8_readWord_97 : decode cX8_readWord 97 = .ok (.getfield 151, 3) := by decide +kernel
theorem dX8_readWord_100 : decode cX8_readWord 100 = .ok (.iconst 1, 1) := by decide +kernel
theorem dX8_readWord_101 : decode cX8_readWord 101 = .ok (.iadd, 1) := by decide +kernel
theorem dX8_readWord_102 : decode cX8_readWord 102 = .ok (.putfield 151, 3) := by decide +kernel
theorem dX8_readWord_105 : decode cX8_readWord 105 = .ok (.goto (-87), 3) := by decide +kernel
theorem dX8_readWord_108 : decode cX8_readWord 108 = .ok (.return_, 1) := by decide +kernel
theorem dX8_code_0 : decode cX8_code 0 = .ok (.ldc2_w 162, 3) := by decide +kernel
theorem dX8_code_3 : decode cX8_code 3 = .ok (.ldc2_w 162, 3) := by decide +kernel
theorem dX8_code_6 : decode cX8_code 6 = .ok (.iload_n 0, 1) := by decide +kernel
theorem dX8_code_7 : decode cX8_code 7 = .ok (.i2l, 1) := by decide +kernel
theorem dX8_code_8 : decode cX8_code 8 = .ok (.ldc2_w 164, 3) := by decide +kernel
theorem dX8_code_11 : decode cX8_code 11 = .ok (.lsub, 1) := by decide +kernel
theorem dX8_code_12 : decode cX8_code 12 = .ok (.lmul, 1) := by decide +kernel
theorem dX8_code_13 : decode cX8_code 13 = .ok (.iload_n 1, 1) := by decide +kernel
theorem dX8_code_14 : decode cX8_code 14 = .ok (.i2l, 1) := by decide +kernel
theorem dX8_code_15 : decode cX8_code 15 = .ok (.ladd, 1) := by decide +kernel
theorem dX8_code_16 : decode cX8_code 16 = .ok (.ldc2_w 164, 3) := by decide +kernel
theorem dX8_code_19 : decode cX8_code 19 = .ok (.lsub, 1) := by decide +kernel
theorem dX8_code_20 : decode cX8_code 20 = .ok (.lmul, 1) := by decide +kernel
theorem dX8_code_21 : decode cX8_code 21 = .ok (.iload_n 2, 1) := by decide +kernel
theorem dX8_code_22 : decode cX8_code 22 = .ok (.i2l, 1) := by decide +kernel
theorem dX8_code_23 : decode cX8_code 23 = .ok (.ladd, 1) := by decide +kernel
theorem dX8_code_24 : decode cX8_code 24 = .ok (.ldc2_w 164, 3) := by decide +kernel
theorem dX8_code_27 : decode cX8_code 27 = .ok (.lsub, 1) := by decide +kernel
theorem dX8_code_28 : decode cX8_code 28 = .ok (.lreturn, 1) := by decide +kernel
theorem dX8_longer_0 : decode cX8_longer 0 = .ok (.ldc2_w 162, 3) := by decide +kernel
theorem dX8_longer_3 : decode cX8_longer 3 = .ok (.ldc2_w 162, 3) := by decide +kernel
theorem dX8_longer_6 : decode cX8_longer 6 = .ok (.lload_n 0, 1) := by decide +kernel
theorem dX8_longer_7 : decode cX8_longer 7 = .ok (.lmul, 1) := by decide +kernel
theorem dX8_longer_8 : decode cX8_longer 8 = .ok (.iload_n 2, 1) := by decide +kernel
theorem dX8_longer_9 : decode cX8_longer 9 = .ok (.i2l, 1) := by decide +kernel
theorem dX8_longer_10 : decode cX8_longer 10 = .ok (.ladd, 1) := by decide +kernel
theorem dX8_longer_11 : decode cX8_longer 11 = .ok (.ldc2_w 164, 3) := by decide +kernel
theorem dX8_longer_14 : decode cX8_longer 14 = .ok (.lsub, 1) := by decide +kernel
theorem dX8_longer_15 : decode cX8_longer 15 = .ok (.lmul, 1) := by decide +kernel
theorem dX8_longer_16 : decode cX8_longer 16 = .ok (.iload_n 3, 1) := by decide +kernel
theorem dX8_longer_17 : decode cX8_longer 17 = .ok (.i2l, 1) := by decide +kernel
theorem dX8_longer_18 : decode cX8_longer 18 = .ok (.ladd, 1) := by decide +kernel
theorem dX8_longer_19 : decode cX8_longer 19 = .ok (.ldc2_w 164, 3) := by decide +kernel
theorem dX8_longer_22 : decode cX8_longer 22 = .ok (.lsub, 1) := by decide +kernel
theorem dX8_longer_23 : decode cX8_longer 23 = .ok (.lreturn, 1) := by decide +kernel
theorem dX8_takeNumber_0 : decode cX8_takeNumber 0 = .ok (.aload_n 0, 1) := by decide +kernel
theorem dX8_takeNumber_1 : decode cX8_takeNumber 1 = .ok (.invokevirtual 143, 3) := by decide +kernel
theorem dX8_takeNumber_4 : decode cX8_takeNumber 4 = .ok (.istore_n 3, 1) := by decide +kernel
theorem dX8_takeNumber_5 : decode cX8_takeNumber 5 = .ok (.iload_n 3, 1) := by decide +kernel
theorem dX8_takeNumber_6 : decode cX8_takeNumber 6 = .ok (.i2l, 1) := by decide +kernel
theorem dX8_takeNumber_7 : decode cX8_takeNumber 7 = .ok (.ldc2_w 166, 3) := by decide +kernel
theorem dX8_takeNumber_10 : decode cX8_takeNumber 10 = .ok (.ldc2_w 168, 3) := by decide +kernel
theorem dX8_takeNumber_13 : decode cX8_takeNumber 13 = .ok (.invokestatic 112, 3) := by decide +kernel
theorem dX8_takeNumber_16 : decode cX8_takeNumber 16 = .ok (.ifCond .ne 13, 3) := by decide +kernel
theorem dX8_takeNumber_19 : decode cX8_takeNumber 19 = .ok (.aload_n 0, 1) := by decide +kernel
theorem dX8_takeNumber_20 : decode cX8_takeNumber 20 = .ok (.iconst 1, 1) := by decide +kernel
theorem dX8_takeNumber_21 : decode cX8_takeNumber 21 = .ok (.aload_n 0, 1) := by decide +kernel
theorem dX8_takeNumber_22 : decode cX8_takeNumber 22 = .ok (.getfield 140, 3) := by decide +kernel
theorem dX8_takeNumber_25 : decode cX8_takeNumber 25 = .ok (.invokevirtual 170, 3) := by decide +kernel
theorem dX8_takeNumber_28 : decode cX8_takeNumber 28 = .ok (.ireturn, 1) := by decide +kernel
theorem dX8_takeNumber_29 : decode cX8_takeNumber 29 = .ok (.aload_n 0, 1) := by decide +kernel
theorem dX8_takeNumber_30 : decode cX8_takeNumber 30 = .ok (.aload_n 0, 1) := by decide +kernel
theorem dX8_takeNumber_31 : decode cX8_takeNumber 31 = .ok (.getfield 140, 3) := by decide +kernel
theorem dX8_takeNumber_34 : decode cX8_takeNumber 34 = .ok (.putfield 174, 3) := by decide +kernel
theorem dX8_takeNumber_37 : decode cX8_takeNumber 37 = .ok (.aload_n 0, 1) := by decide +kernel
theorem dX8_takeNumber_38 : decode cX8_takeNumber 38 = .ok (.iconst 0, 1) := by decide +kernel
theorem dX8_takeNumber_39 : decode cX8_takeNumber 39 = .ok (.putfield 177, 3) := by decide +kernel
theorem dX8_takeNumber_42 : decode cX8_takeNumber 42 = .ok (.aload_n 0, 1) := by decide +kernel
theorem dX8_takeNumber_43 : decode cX8_takeNumber 43 = .ok (.getfield 140, 3) := by decide +kernel
theorem dX8_takeNumber_46 : decode cX8_takeNumber 46 = .ok (.aload_n 0, 1) := by decide +kernel
theorem dX8_takeNumber_47 : decode cX8_takeNumber 47 = .ok (.getfield 134, 3) := by decide +kernel
theorem dX8_takeNumber_50 : decode cX8_takeNumber 50 = .ok (.if_icmp .ge 79, 3) := by decide +kernel
theorem dX8_takeNumber_53 : decode cX8_takeNumber 53 = .ok (.aload_n 0, 1) := by decide +kernel
theorem dX8_takeNumber_54 : decode cX8_takeNumber 54 = .ok (.getfield 56, 3) := by decide +kernel
theorem dX8_takeNumber_57 : decode cX8_takeNumber 57 = .ok (.aload_n 0, 1) := by decide +kernel
theorem dX8_takeNumber_58 : decode cX8_takeNumber 58 = .ok (.getfield 140, 3) := by decide +kernel
theorem dX8_takeNumber_61 : decode cX8_takeNumber 61 = .ok (.iaload, 1) := by decide +kernel
theorem dX8_takeNumber_62 : decode cX8_takeNumber 62 = .ok (.i2l, 1) := by decide +kernel
theorem dX8_takeNumber_63 : decode cX8_takeNumber 63 = .ok (.ldc2_w 166, 3) := by decide +kernel
theorem dX8_takeNumber_66 : decode cX8_takeNumber 66 = .ok (.ldc2_w 168, 3) := by decide +kernel
theorem dX8_takeNumber_69 : decode cX8_takeNumber 69 = .ok (.invokestatic 112, 3) := by decide +kernel
theorem dX8_takeNumber_72 : decode cX8_takeNumber 72 = .ok (.ifCond .eq 57, 3) := by decide +kernel
theorem dX8_takeNumber_75 : decode cX8_takeNumber 75 = .ok (.aload_n 0, 1) := by decide +kernel
theorem dX8_takeNumber_76 : decode cX8_takeNumber 76 = .ok (.aload_n 0, 1) := by decide +kernel
theorem dX8_takeNumber_77 : decode cX8_takeNumber 77 = .ok (.getfield 177, 3) := by decide +kernel
theorem dX8_takeNumber_80 : decode cX8_takeNumber 80 = .ok (.sipush 10000, 3) := by decide +kernel
theorem dX8_takeNumber_83 : decode cX8_takeNumber 83 = .ok (.if_icmp .le 10, 3) := by decide +kernel
theorem dX8_takeNumber_86 : decode cX8_takeNumber 86 = .ok (.aload_n 0, 1) := by decide +kernel
theorem dX8_takeNumber_87 : decode cX8_takeNumber 87 = .ok (.getfield 177, 3) := by decide +kernel
theorem dX8_takeNumber_90 : decode cX8_takeNumber 90 = .ok (.goto 23, 3) := by decide +kernel
theorem dX8_takeNumber_93 : decode cX8_takeNumber 93 = .ok (.bipush 10, 2) := by decide +kernel
theorem dX8_takeNumber_95 : decode cX8_takeNumber 95 = .ok (.aload_n 0, 1) := by decide +kernel
theorem dX8_takeNumber_96 : decode cX8_takeNumber 96 = .ok (.getfield 177, 3) := by decide +kernel
theorem dX8_takeNumber_99 : decode cX8_takeNumber 99 = .ok (.imul, 1) := by decide +kernel
theorem dX8_takeNumber_100 : decode cX8_takeNumber 100 = .ok (.aload_n 0, 1) := by decide +kernel
theorem dX8_takeNumber_101 : decode cX8_takeNumber 101 = .ok (.getfield 56, 3) := by decide +kernel
theorem dX8_takeNumber_104 : decode cX8_takeNumber 104 = .ok (.aload_n 0, 1) := by decide +kernel
theorem dX8_takeNumber_105 : decode cX8_takeNumber 105 = .ok (.getfield 140, 3) := by decide +kernel
theorem dX8_takeNumber_108 : decode cX8_takeNumber 108 = .ok (.iaload, 1) := by decide +kernel
theorem dX8_takeNumber_109 : decode cX8_takeNumber 109 = .ok (.iadd, 1) := by decide +kernel
theorem dX8_takeNumber_110 : decode cX8_takeNumber 110 = .ok (.bipush 48, 2) := by decide +kernel
theorem dX8_takeNumber_112 : decode cX8_takeNumber 112 = .ok (.isub, 1) := by decide +kernel
theorem dX8_takeNumber_113 : decode cX8_takeNumber 113 = .ok (.putfield 177, 3) := by decide +kernel
theorem dX8_takeNumber_116 : decode cX8_takeNumber 116 = .ok (.aload_n 0, 1) := by decide +kernel
theorem dX8_takeNumber_117 : decode cX8_takeNumber 117 = .ok (.dup, 1) := by decide +kernel
theorem dX8_takeNumber_118 : decode cX8_takeNumber 118 = .ok (.getfield 140, 3) := by decide +kernel
theorem dX8_takeNumber_121 : decode cX8_takeNumber 121 = .ok (.iconst 1, 1) := by decide +kernel
theorem dX8_takeNumber_122 : decode cX8_takeNumber 122 = .ok (.iadd, 1) := by decide +kernel
theorem dX8_takeNumber_123 : decode cX8_takeNumber 123 = .ok (.putfield 140, 3) := by decide +kernel
theorem dX8_takeNumber_126 : decode cX8_takeNumber 126 = .ok (.goto (-84), 3) := by decide +kernel
theorem dX8_takeNumber_129 : decode cX8_takeNumber 129 = .ok (.aload_n 0, 1) := by decide +kernel
theorem dX8_takeNumber_130 : decode cX8_takeNumber 130 = .ok (.getfield 140, 3) := by decide +kernel
theorem dX8_takeNumber_133 : decode cX8_takeNumber 133 = .ok (.aload_n 0, 1) := by decide +kernel
theorem dX8_takeNumber_134 : decode cX8_takeNumber 134 = .ok (.getfield 174, 3) := by decide +kernel
theorem dX8_takeNumber_137 : decode cX8_takeNumber 137 = .ok (.isub, 1) := by decide +kernel
theorem dX8_takeNumber_138 : decode cX8_takeNumber 138 = .ok (.iconst 3, 1) := by decide +kernel
theorem dX8_takeNumber_139 : decode cX8_takeNumber 139 = .ok (.if_icmp .gt 18, 3) := by decide +kernel
theorem dX8_takeNumber_142 : decode cX8_takeNumber 142 = .ok (.aload_n 0, 1) := by decide +kernel
theorem dX8_takeNumber_143 : decode cX8_takeNumber 143 = .ok (.getfield 177, 3) := by decide +kernel
theorem dX8_takeNumber_146 : decode cX8_takeNumber 146 = .ok (.i2l, 1) := by decide +kernel
theorem dX8_takeNumber_147 : decode cX8_takeNumber 147 = .ok (.iload_n 1, 1) := by decide +kernel
theorem dX8_takeNumber_148 : decode cX8_takeNumber 148 = .ok (.i2l, 1) := by decide +kernel
theorem dX8_takeNumber_149 : decode cX8_takeNumber 149 = .ok (.iload_n 2, 1) := by decide +kernel
theorem dX8_takeNumber_150 : decode cX8_takeNumber 150 = .ok (.i2l, 1) := by decide +kernel
theorem dX8_takeNumber_151 : decode cX8_takeNumber 151 = .ok (.invokestatic 112, 3) := by decide +kernel
theorem dX8_takeNumber_154 : decode cX8_takeNumber 154 = .ok (.ifCond .ne 15, 3) := by decide +kernel
theorem dX8_takeNumber_157 : decode cX8_takeNumber 157 = .ok (.aload_n 0, 1) := by decide +kernel
theorem dX8_takeNumber_158 : decode cX8_takeNumber 158 = .ok (.iconst 2, 1) := by decide +kernel
theorem dX8_takeNumber_159 : decode cX8_takeNumber 159 = .ok (.aload_n 0, 1) := by decide +kernel
theorem dX8_takeNumber_160 : decode cX8_takeNumber 160 = .ok (.getfield 174, 3) := by decide +kernel
theorem dX8_takeNumber_163 : decode cX8_takeNumber 163 = .ok (.invokevirtual 170, 3) := by decide +kernel
theorem dX8_takeNumber_166 : decode cX8_takeNumber 166 = .ok (.goto 4, 3) := by decide +kernel
theorem dX8_takeNumber_169 : decode cX8_takeNumber 169 = .ok (.iconst 0, 1) := by decide +kernel
theorem dX8_takeNumber_170 : decode cX8_takeNumber 170 = .ok (.ireturn, 1) := by decide +kernel
theorem dX8_into_0 : decode cX8_into 0 = .ok (.aload_n 0, 1) := by decide +kernel
theorem dX8_into_1 : decode cX8_into 1 = .ok (.iload_n 3, 1) := by decide +kernel
theorem dX8_into_2 : decode cX8_into 2 = .ok (.iload 4, 2) := by decide +kernel
theorem dX8_into_4 : decode cX8_into 4 = .ok (.invokevirtual 180, 3) := by decide +kernel
theorem dX8_into_7 : decode cX8_into 7 = .ok (.istore 5, 2) := by decide +kernel
theorem dX8_into_9 : decode cX8_into 9 = .ok (.aload_n 1, 1) := by decide +kernel
theorem dX8_into_10 : decode cX8_into 10 = .ok (.iload_n 2, 1) := by decide +kernel
theorem dX8_into_11 : decode cX8_into 11 = .ok (.aload_n 0, 1) := by decide +kernel
theorem dX8_into_12 : decode cX8_into 12 = .ok (.getfield 177, 3) := by decide +kernel
theorem dX8_into_15 : decode cX8_into 15 = .ok (.iastore, 1) := by decide +kernel
theorem dX8_into_16 : decode cX8_into 16 = .ok (.iload 5, 2) := by decide +kernel
theorem dX8_into_18 : decode cX8_into 18 = .ok (.ireturn, 1) := by decide +kernel
theorem dX8_takeHouse_0 : decode cX8_takeHouse 0 = .ok (.aload_n 0, 1) := by decide +kernel
theorem dX8_takeHouse_1 : decode cX8_takeHouse 1 = .ok (.getfield 183, 3) := by decide +kernel
theorem dX8_takeHouse_4 : decode cX8_takeHouse 4 = .ok (.istore_n 1, 1) := by decide +kernel
theorem dX8_takeHouse_5 : decode cX8_takeHouse 5 = .ok (.aload_n 0, 1) := by decide +kernel
theorem dX8_takeHouse_6 : decode cX8_takeHouse 6 = .ok (.dup, 1) := by decide +kernel
theorem dX8_takeHouse_7 : decode cX8_takeHouse 7 = .ok (.getfield 183, 3) := by decide +kernel
theorem dX8_takeHouse_10 : decode cX8_takeHouse 10 = .ok (.iconst 1, 1) := by decide +kernel
theorem dX8_takeHouse_11 : decode cX8_takeHouse 11 = .ok (.iadd, 1) := by decide +kernel
theorem dX8_takeHouse_12 : decode cX8_takeHouse 12 = .ok (.putfield 183, 3) := by decide +kernel
theorem dX8_takeHouse_15 : decode cX8_takeHouse 15 = .ok (.aload_n 0, 1) := by decide +kernel
theorem dX8_takeHouse_16 : decode cX8_takeHouse 16 = .ok (.aload_n 0, 1) := by decide +kernel
theorem dX8_takeHouse_17 : decode cX8_takeHouse 17 = .ok (.getfield 62, 3) := by decide +kernel
theorem dX8_takeHouse_20 : decode cX8_takeHouse 20 = .ok (.iload_n 1, 1) := by decide +kernel
theorem dX8_takeHouse_21 : decode cX8_takeHouse 21 = .ok (.iconst 1, 1) := by decide +kernel
theorem dX8_takeHouse_22 : decode cX8_takeHouse 22 = .ok (.bipush 7, 2) := by decide +kernel
theorem dX8_takeHouse_24 : decode cX8_takeHouse 24 = .ok (.invokevirtual 186, 3) := by decide +kernel
theorem dX8_takeHouse_27 : decode cX8_takeHouse 27 = .ok (.istore_n 2, 1) := by decide +kernel
theorem dX8_takeHouse_28 : decode cX8_takeHouse 28 = .ok (.iload_n 2, 1) := by decide +kernel
theorem dX8_takeHouse_29 : decode cX8_takeHouse 29 = .ok (.ifCond .le 7, 3) := by decide +kernel
theorem dX8_takeHouse_32 : decode cX8_takeHouse 32 = .ok (.iload_n 2, 1) := by decide +kernel
theorem dX8_takeHouse_33 : decode cX8_takeHouse 33 = .ok (.goto 16, 3) := by decide +kernel
theorem dX8_takeHouse_36 : decode cX8_takeHouse 36 = .ok (.aload_n 0, 1) := by decide +kernel
theorem dX8_takeHouse_37 : decode cX8_takeHouse 37 = .ok (.aload_n 0, 1) := by decide +kernel
theorem dX8_takeHouse_38 : decode cX8_takeHouse 38 = .ok (.getfield 65, 3) := by decide +kernel
theorem dX8_takeHouse_41 : decode cX8_takeHouse 41 = .ok (.iload_n 1, 1) := by decide +kernel
theorem dX8_takeHouse_42 : decode cX8_takeHouse 42 = .ok (.iconst 0, 1) := by decide +kernel
theorem dX8_takeHouse_43 : decode cX8_takeHouse 43 = .ok (.sipush 999, 3) := by decide +kernel
theorem dX8_takeHouse_46 : decode cX8_takeHouse 46 = .ok (.invokevirtual 186, 3) := by decide +kernel
theorem dX8_takeHouse_49 : decode cX8_takeHouse 49 = .ok (.istore_n 2, 1) := by decide +kernel
theorem dX8_takeHouse_50 : decode cX8_takeHouse 50 = .ok (.iload_n 2, 1) := by decide +kernel
theorem dX8_takeHouse_51 : decode cX8_takeHouse 51 = .ok (.ifCond .le 7, 3) := by decide +kernel
theorem dX8_takeHouse_54 : decode cX8_takeHouse 54 = .ok (.iload_n 2, 1) := by decide +kernel
theorem dX8_takeHouse_55 : decode cX8_takeHouse 55 = .ok (.goto 15, 3) := by decide +kernel
theorem dX8_takeHouse_58 : decode cX8_takeHouse 58 = .ok (.aload_n 0, 1) := by decide +kernel
theorem dX8_takeHouse_59 : decode cX8_takeHouse 59 = .ok (.aload_n 0, 1) := by decide +kernel
theorem dX8_takeHouse_60 : decode cX8_takeHouse 60 = .ok (.getfield 68, 3) := by decide +kernel
theorem dX8_takeHouse_63 : decode cX8_takeHouse 63 = .ok (.iload_n 1, 1) := by decide +kernel
theorem dX8_takeHouse_64 : decode cX8_takeHouse 64 = .ok (.iconst 0, 1) := by decide +kernel
theorem dX8_takeHouse_65 : decode cX8_takeHouse 65 = .ok (.bipush 60, 2) := by decide +kernel
theorem dX8_takeHouse_67 : decode cX8_takeHouse 67 = .ok (.invokevirtual 186, 3) := by decide +kernel
theorem dX8_takeHouse_70 : decode cX8_takeHouse 70 = .ok (.ireturn, 1) := by decide +kernel
theorem dX8_takeSleeper_0 : decode cX8_takeSleeper 0 = .ok (.aload_n 0, 1) := by decide +kernel
theorem dX8_takeSleeper_1 : decode cX8_takeSleeper 1 = .ok (.getfield 190, 3) := by decide +kernel
theorem dX8_takeSleeper_4 : decode cX8_takeSleeper 4 = .ok (.istore_n 1, 1) := by decide +kernel
theorem dX8_takeSleeper_5 : decode cX8_takeSleeper 5 = .ok (.aload_n 0, 1) := by decide +kernel
theorem dX8_takeSleeper_6 : decode cX8_takeSleeper 6 = .ok (.dup, 1) := by decide +kernel
theorem dX8_takeSleeper_7 : decode cX8_takeSleeper 7 = .ok (.getfield 190, 3) := by decide +kernel
theorem dX8_takeSleeper_10 : decode cX8_takeSleeper 10 = .ok (.iconst 1, 1) := by decide +kernel
theorem dX8_takeSleeper_11 : decode cX8_takeSleeper 11 = .ok (.iadd, 1) := by decide +kernel
theorem dX8_takeSleeper_12 : decode cX8_takeSleeper 12 = .ok (.putfield 190, 3) := by decide +kernel
theorem dX8_takeSleeper_15 : decode cX8_takeSleeper 15 = .ok (.aload_n 0, 1) := by decide +kernel
theorem dX8_takeSleeper_16 : decode cX8_takeSleeper 16 = .ok (.aload_n 0, 1) := by decide +kernel
theorem dX8_takeSleeper_17 : decode cX8_takeSleeper 17 = .ok (.getfield 71, 3) := by decide +kernel
