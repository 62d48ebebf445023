theorem dX0_init_0 : decode cX0_init 0 = .ok (.aload_n 0, 1) := by decide +kernel
theorem dX0_init_1 : decode cX0_init 1 = .ok (.invokespecial 3, 3) := by decide +kernel
theorem dX0_init_4 : decode cX0_init 4 = .ok (.aload_n 0, 1) := by decide +kernel
theorem dX0_init_5 : decode cX0_init 5 = .ok (.aload_n 1, 1) := by decide +kernel
theorem dX0_init_6 : decode cX0_init 6 = .ok (.putfield 9, 3) := by decide +kernel
theorem dX0_init_9 : decode cX0_init 9 = .ok (.aload_n 0, 1) := by decide +kernel
theorem dX0_init_10 : decode cX0_init 10 = .ok (.new 15, 3) := by decide +kernel
theorem dX0_init_13 : decode cX0_init 13 = .ok (.dup, 1) := by decide +kernel
theorem dX0_init_14 : decode cX0_init 14 = .ok (.aload_n 1, 1) := by decide +kernel
theorem dX0_init_15 : decode cX0_init 15 = .ok (.invokespecial 17, 3) := by decide +kernel
theorem dX0_init_18 : decode cX0_init 18 = .ok (.putfield 20, 3) := by decide +kernel
theorem dX0_init_21 : decode cX0_init 21 = .ok (.aload_n 0, 1) := by decide +kernel
theorem dX0_init_22 : decode cX0_init 22 = .ok (.iconst 5, 1) := by decide +kernel
theorem dX0_init_23 : decode cX0_init 23 = .ok (.newarray .int, 2) := by decide +kernel
theorem dX0_init_25 : decode cX0_init 25 = .ok (.putfield 24, 3) := by decide +kernel
theorem dX0_init_28 : decode cX0_init 28 = .ok (.aload_n 0, 1) := by decide +kernel
theorem dX0_init_29 : decode cX0_init 29 = .ok (.iconst 5, 1) := by decide +kernel
theorem dX0_init_30 : decode cX0_init 30 = .ok (.newarray .int, 2) := by decide +kernel
theorem dX0_init_32 : decode cX0_init 32 = .ok (.putfield 28, 3) := by decide +kernel
theorem dX0_init_35 : decode cX0_init 35 = .ok (.aload_n 0, 1) := by decide +kernel
theorem dX0_init_36 : decode cX0_init 36 = .ok (.sipush 200, 3) := by decide +kernel
theorem dX0_init_39 : decode cX0_init 39 = .ok (.newarray .int, 2) := by decide +kernel
theorem dX0_init_41 : decode cX0_init 41 = .ok (.putfield 31, 3) := by decide +kernel
theorem dX0_init_44 : decode cX0_init 44 = .ok (.aload_n 0, 1) := by decide +kernel
theorem dX0_init_45 : decode cX0_init 45 = .ok (.sipush 200, 3) := by decide +kernel
theorem dX0_init_48 : decode cX0_init 48 = .ok (.newarray .int, 2) := by decide +kernel
theorem dX0_init_50 : decode cX0_init 50 = .ok (.putfield 34, 3) := by decide +kernel
theorem dX0_init_53 : decode cX0_init 53 = .ok (.aload_n 0, 1) := by decide +kernel
theorem dX0_init_54 : decode cX0_init 54 = .ok (.bipush 8, 2) := by decide +kernel
theorem dX0_init_56 : decode cX0_init 56 = .ok (.newarray .int, 2) := by decide +kernel
theorem dX0_init_58 : decode cX0_init 58 = .ok (.putfield 37, 3) := by decide +kernel
theorem dX0_init_61 : decode cX0_init 61 = .ok (.return_, 1) := by decide +kernel
theorem dX0_beginAnew_0 : decode cX0_beginAnew 0 = .ok (.aload_n 0, 1) := by decide +kernel
theorem dX0_beginAnew_1 : decode cX0_beginAnew 1 = .ok (.getfield 20, 3) := by decide +kernel
theorem dX0_beginAnew_4 : decode cX0_beginAnew 4 = .ok (.invokevirtual 40, 3) := by decide +kernel
theorem dX0_beginAnew_7 : decode cX0_beginAnew 7 = .ok (.aload_n 0, 1) := by decide +kernel
theorem dX0_beginAnew_8 : decode cX0_beginAnew 8 = .ok (.iconst 0, 1) := by decide +kernel
theorem dX0_beginAnew_9 : decode cX0_beginAnew 9 = .ok (.putfield 43, 3) := by decide +kernel
theorem dX0_beginAnew_12 : decode cX0_beginAnew 12 = .ok (.aload_n 0, 1) := by decide +kernel
theorem dX0_beginAnew_13 : decode cX0_beginAnew 13 = .ok (.getfield 24, 3) := by decide +kernel
theorem dX0_beginAnew_16 : decode cX0_beginAnew 16 = .ok (.iconst 0, 1) := by decide +kernel
theorem dX0_beginAnew_17 : decode cX0_beginAnew 17 = .ok (.invokestatic 47, 3) := by decide +kernel
theorem dX0_beginAnew_20 : decode cX0_beginAnew 20 = .ok (.aload_n 0, 1) := by decide +kernel
theorem dX0_beginAnew_21 : decode cX0_beginAnew 21 = .ok (.getfield 28, 3) := by decide +kernel
theorem dX0_beginAnew_24 : decode cX0_beginAnew 24 = .ok (.iconst 0, 1) := by decide +kernel
theorem dX0_beginAnew_25 : decode cX0_beginAnew 25 = .ok (.invokestatic 47, 3) := by decide +kernel
theorem dX0_beginAnew_28 : decode cX0_beginAnew 28 = .ok (.aload_n 0, 1) := by decide +kernel
theorem dX0_beginAnew_29 : decode cX0_beginAnew 29 = .ok (.iconst 0, 1) := by decide +kernel
theorem dX0_beginAnew_30 : decode cX0_beginAnew 30 = .ok (.putfield 53, 3) := by decide +kernel
theorem dX0_beginAnew_33 : decode cX0_beginAnew 33 = .ok (.aload_n 0, 1) := by decide +kernel
theorem dX0_beginAnew_34 : decode cX0_beginAnew 34 = .ok (.iconst 0, 1) := by decide +kernel
theorem dX0_beginAnew_35 : decode cX0_beginAnew 35 = .ok (.putfield 56, 3) := by decide +kernel
theorem dX0_beginAnew_38 : decode cX0_beginAnew 38 = .ok (.return_, 1) := by decide +kernel
theorem dX0_copyFrom_0 : decode cX0_copyFrom 0 = .ok (.aload_n 0, 1) := by decide +kernel
theorem dX0_copyFrom_1 : decode cX0_copyFrom 1 = .ok (.getfield 20, 3) := by decide +kernel
theorem dX0_copyFrom_4 : decode cX0_copyFrom 4 = .ok (.aload_n 1, 1) := by decide +kernel
theorem dX0_copyFrom_5 : decode cX0_copyFrom 5 = .ok (.getfield 20, 3) := by decide +kernel
theorem dX0_copyFrom_8 : decode cX0_copyFrom 8 = .ok (.invokevirtual 59, 3) := by decide +kernel
theorem dX0_copyFrom_11 : decode cX0_copyFrom 11 = .ok (.aload_n 0, 1) := by decide +kernel
theorem dX0_copyFrom_12 : decode cX0_copyFrom 12 = .ok (.aload_n 1, 1) := by decide +kernel
theorem dX0_copyFrom_13 : decode cX0_copyFrom 13 = .ok (.getfield 43, 3) := by decide +kernel
theorem dX0_copyFrom_16 : decode cX0_copyFrom 16 = .ok (.putfield 43, 3) := by decide +kernel
theorem dX0_copyFrom_19 : decode cX0_copyFrom 19 = .ok (.aload_n 1, 1) := by decide +kernel
theorem dX0_copyFrom_20 : decode cX0_copyFrom 20 = .ok (.getfield 24, 3) := by decide +kernel
theorem dX0_copyFrom_23 : decode cX0_copyFrom 23 = .ok (.iconst 0, 1) := by decide +kernel
theorem dX0_copyFrom_24 : decode cX0_copyFrom 24 = .ok (.aload_n 0, 1) := by decide +kernel
theorem dX0_copyFrom_25 : decode cX0_copyFrom 25 = .ok (.getfield 24, 3) := by decide +kernel
theorem dX0_copyFrom_28 : decode cX0_copyFrom 28 = .ok (.iconst 0, 1) := by decide +kernel
theorem dX0_copyFrom_29 : decode cX0_copyFrom 29 = .ok (.iconst 5, 1) := by decide +kernel
theorem dX0_copyFrom_30 : decode cX0_copyFrom 30 = .ok (.invokestatic 63, 3) := by decide +kernel
theorem dX0_copyFrom_33 : decode cX0_copyFrom 33 = .ok (.aload_n 1, 1) := by decide +kernel
theorem dX0_copyFrom_34 : decode cX0_copyFrom 34 = .ok (.getfield 28, 3) := by decide +kernel
theorem dX0_copyFrom_37 : decode cX0_copyFrom 37 = .ok (.iconst 0, 1) := by decide +kernel
theorem dX0_copyFrom_38 : decode cX0_copyFrom 38 = .ok (.aload_n 0, 1) := by decide +kernel
theorem dX0_copyFrom_39 : decode cX0_copyFrom 39 = .ok (.getfield 28, 3) := by decide +kernel
theorem dX0_copyFrom_42 : decode cX0_copyFrom 42 = .ok (.iconst 0, 1) := by decide +kernel
theorem dX0_copyFrom_43 : decode cX0_copyFrom 43 = .ok (.iconst 5, 1) := by decide +kernel
theorem dX0_copyFrom_44 : decode cX0_copyFrom 44 = .ok (.invokestatic 63, 3) := by decide +kernel
theorem dX0_copyFrom_47 : decode cX0_copyFrom 47 = .ok (.aload_n 0, 1) := by decide +kernel
theorem dX0_copyFrom_48 : decode cX0_copyFrom 48 = .ok (.aload_n 1, 1) := by decide +kernel
theorem dX0_copyFrom_49 : decode cX0_copyFrom 49 = .ok (.getfield 53, 3) := by decide +kernel
theorem dX0_copyFrom_52 : decode cX0_copyFrom 52 = .ok (.putfield 53, 3) := by decide +kernel
theorem dX0_copyFrom_55 : decode cX0_copyFrom 55 = .ok (.aload_n 0, 1) := by decide +kernel
theorem dX0_copyFrom_56 : decode cX0_copyFrom 56 = .ok (.aload_n 1, 1) := by decide +kernel
theorem dX0_copyFrom_57 : decode cX0_copyFrom 57 = .ok (.getfield 56, 3) := by decide +kernel
theorem dX0_copyFrom_60 : decode cX0_copyFrom 60 = .ok (.putfield 56, 3) := by decide +kernel
theorem dX0_copyFrom_63 : decode cX0_copyFrom 63 = .ok (.aload_n 1, 1) := by decide +kernel
theorem dX0_copyFrom_64 : decode cX0_copyFrom 64 = .ok (.getfield 31, 3) := by decide +kernel
theorem dX0_copyFrom_67 : decode cX0_copyFrom 67 = .ok (.iconst 0, 1) := by decide +kernel
theorem dX0_copyFrom_68 : decode cX0_copyFrom 68 = .ok (.aload_n 0, 1) := by decide +kernel
theorem dX0_copyFrom_69 : decode cX0_copyFrom 69 = .ok (.getfield 31, 3) := by decide +kernel
theorem dX0_copyFrom_72 : decode cX0_copyFrom 72 = .ok (.iconst 0, 1) := by decide +kernel
theorem dX0_copyFrom_73 : decode cX0_copyFrom 73 = .ok (.aload_n 0, 1) := by decide +kernel
theorem dX0_copyFrom_74 : decode cX0_copyFrom 74 = .ok (.getfield 56, 3) := by decide +kernel
theorem dX0_copyFrom_77 : decode cX0_copyFrom 77 = .ok (.invokestatic 63, 3) := by decide +kernel
theorem dX0_copyFrom_80 : decode cX0_copyFrom 80 = .ok (.aload_n 1, 1) := by decide +kernel
theorem dX0_copyFrom_81 : decode cX0_copyFrom 81 = .ok (.getfield 34, 3) := by decide +kernel
theorem dX0_copyFrom_84 : decode cX0_copyFrom 84 = .ok (.iconst 0, 1) := by decide +kernel
theorem dX0_copyFrom_85 : decode cX0_copyFrom 85 = .ok (.aload_n 0, 1) := by decide +kernel
theorem dX0_copyFrom_86 : decode cX0_copyFrom 86 = .ok (.getfield 34, 3) := by decide +kernel
theorem dX0_copyFrom_89 : decode cX0_copyFrom 89 = .ok (.iconst 0, 1) := by decide +kernel
theorem dX0_copyFrom_90 : decode cX0_copyFrom 90 = .ok (.aload_n 0, 1) := by decide +kernel
theorem dX0_copyFrom_91 : decode cX0_copyFrom 91 = .ok (.getfield 56, 3) := by decide +kernel
theorem dX0_copyFrom_94 : decode cX0_copyFrom 94 = .ok (.invokestatic 63, 3) := by decide +kernel
theorem dX0_copyFrom_97 : decode cX0_copyFrom 97 = .ok (.aload_n 0, 1) := by decide +kernel
theorem dX0_copyFrom_98 : decode cX0_copyFrom 98 = .ok (.aload_n 1, 1) := by decide +kernel
theorem dX0_copyFrom_99 : decode cX0_copyFrom 99 = .ok (.getfield 69, 3) := by decide +kernel
theorem dX0_copyFrom_102 : decode cX0_copyFrom 102 = .ok (.putfield 69, 3) := by decide +kernel
theorem dX0_copyFrom_105 : decode cX0_copyFrom 105 = .ok (.return_, 1) := by decide +kernel
theorem dX0_liveDay_0 : decode cX0_liveDay 0 = .ok (.iconst 0, 1) := by decide +kernel
theorem dX0_liveDay_1 : decode cX0_liveDay 1 = .ok (.istore_n 1, 1) := by decide +kernel
theorem dX0_liveDay_2 : decode cX0_liveDay 2 = .ok (.iload_n 1, 1) := by decide +kernel
theorem dX0_liveDay_3 : decode cX0_liveDay 3 = .ok (.aload_n 0, 1) := by decide +kernel
theorem dX0_liveDay_4 : decode cX0_liveDay 4 = .ok (.getfield 9, 3) := by decide +kernel
theorem dX0_liveDay_7 : decode cX0_liveDay 7 = .ok (.getfield 72, 3) := by decide +kernel
theorem dX0_liveDay_10 : decode cX0_liveDay 10 = .ok (.if_icmp .ge 40, 3) := by decide +kernel
theorem dX0_liveDay_13 : decode cX0_liveDay 13 = .ok (.aload_n 0, 1) := by decide +kernel
theorem dX0_liveDay_14 : decode cX0_liveDay 14 = .ok (.getfield 37, 3) := by decide +kernel
theorem dX0_liveDay_17 : decode cX0_liveDay 17 = .ok (.iload_n 1, 1) := by decide +kernel
theorem dX0_liveDay_18 : decode cX0_liveDay 18 = .ok (.aload_n 0, 1) := by decide +kernel
theorem dX0_liveDay_19 : decode cX0_liveDay 19 = .ok (.getfield 20, 3) := by decide +kernel
theorem dX0_liveDay_22 : decode cX0_liveDay 22 = .ok (.iload_n 1, 1) := by decide +kernel
theorem dX0_liveDay_23 : decode cX0_liveDay 23 = .ok (.aload_n 0, 1) := by decide +kernel
theorem dX0_liveDay_24 : decode cX0_liveDay 24 = .ok (.iconst 2, 1) := by decide +kernel
theorem dX0_liveDay_25 : decode cX0_liveDay 25 = .ok (.aload_n 0, 1) := by decide +kernel
theorem dX0_liveDay_26 : decode cX0_liveDay 26 = .ok (.getfield 9, 3) := by decide +kernel
theorem dX0_liveDay_29 : decode cX0_liveDay 29 = .ok (.getfield 77, 3) := by decide +kernel
theorem dX0_liveDay_32 : decode cX0_liveDay 32 = .ok (.iload_n 1, 1) := by decide +kernel
theorem dX0_liveDay_33 : decode cX0_liveDay 33 = .ok (.iaload, 1) := by decide +kernel
theorem dX0_liveDay_34 : decode cX0_liveDay 34 = .ok (.imul, 1) := by decide +kernel
theorem dX0_liveDay_35 : decode cX0_liveDay 35 = .ok (.iconst 1, 1) := by decide +kernel
theorem dX0_liveDay_36 : decode cX0_liveDay 36 = .ok (.iadd, 1) := by decide +kernel
theorem dX0_liveDay_37 : decode cX0_liveDay 37 = .ok (.invokevirtual 80, 3) := by decide +kernel
theorem dX0_liveDay_40 : decode cX0_liveDay 40 = .ok (.invokevirtual 84, 3) := by decide +kernel
theorem dX0_liveDay_43 : decode cX0_liveDay 43 = .ok (.iastore, 1) := by decide +kernel
theorem dX0_liveDay_44 : decode cX0_liveDay 44 = .ok (.iinc 1 1, 3) := by decide +kernel
theorem dX0_liveDay_47 : decode cX0_liveDay 47 = .ok (.goto (-45), 3) := by decide +kernel
theorem dX0_liveDay_50 : decode cX0_liveDay 50 = .ok (.aload_n 0, 1) := by decide +kernel
theorem dX0_liveDay_51 : decode cX0_liveDay 51 = .ok (.getfield 20, 3) := by decide +kernel
theorem dX0_liveDay_54 : decode cX0_liveDay 54 = .ok (.getfield 88, 3) := by decide +kernel
theorem dX0_liveDay_57 : decode cX0_liveDay 57 = .ok (.iconst 2, 1) := by decide +kernel
theorem dX0_liveDay_58 : decode cX0_liveDay 58 = .ok (.if_icmp .ne 17, 3) := by decide +kernel
theorem dX0_liveDay_61 : decode cX0_liveDay 61 = .ok (.aload_n 0, 1) := by decide +kernel
theorem dX0_liveDay_62 : decode cX0_liveDay 62 = .ok (.aload_n 0, 1) := by decide +kernel
theorem dX0_liveDay_63 : decode cX0_liveDay 63 = .ok (.getfield 9, 3) := by decide +kernel
theorem dX0_liveDay_66 : decode cX0_liveDay 66 = .ok (.getfield 72, 3) := by decide +kernel
theorem dX0_liveDay_69 : decode cX0_liveDay 69 = .ok (.invokevirtual 80, 3) := by decide +kernel
theorem dX0_liveDay_72 : decode cX0_liveDay 72 = .ok (.goto 7, 3) := by decide +kernel
theorem dX0_liveDay_75 : decode cX0_liveDay 75 = .ok (.aload_n 0, 1) := by decide +kernel
theorem dX0_liveDay_76 : decode cX0_liveDay 76 = .ok (.invokevirtual 91, 3) := by decide +kernel
theorem dX0_liveDay_79 : decode cX0_liveDay 79 = .ok (.istore_n 1, 1) := by decide +kernel
theorem dX0_liveDay_80 : decode cX0_liveDay 80 = .ok (.aload_n 0, 1) := by decide +kernel
theorem dX0_liveDay_81 : decode cX0_liveDay 81 = .ok (.dup, 1) := by decide +kernel
theorem dX0_liveDay_82 : decode cX0_liveDay 82 = .ok (.getfield 43, 3) := by decide +kernel
theorem dX0_liveDay_85 : decode cX0_liveDay 85 = .ok (.iconst 1, 1) := by decide +kernel
theorem dX0_liveDay_86 : decode cX0_liveDay 86 = .ok (.iadd, 1) := by decide +kernel
theorem dX0_liveDay_87 : decode cX0_liveDay 87 = .ok (.putfield 43, 3) := by decide +kernel
theorem dX0_liveDay_90 : decode cX0_liveDay 90 = .ok (.aload_n 0, 1) := by decide +kernel
theorem dX0_liveDay_91 : decode cX0_liveDay 91 = .ok (.iload_n 1, 1) := by decide +kernel
theorem dX0_liveDay_92 : decode cX0_liveDay 92 = .ok (.invokevirtual 95, 3) := by decide +kernel
theorem dX0_liveDay_95 : decode cX0_liveDay 95 = .ok (.aload_n 0, 1) := by decide +kernel
theorem dX0_liveDay_96 : decode cX0_liveDay 96 = .ok (.aload_n 0, 1) := by decide +kernel
theorem dX0_liveDay_97 : decode cX0_liveDay 97 = .ok (.getfield 9, 3) := by decide +kernel
theorem dX0_liveDay_100 : decode cX0_liveDay 100 = .ok (.getfield 99, 3) := by decide +kernel
theorem dX0_liveDay_103 : decode cX0_liveDay 103 = .ok (.iload_n 1, 1) := by decide +kernel
theorem dX0_liveDay_104 : decode cX0_liveDay 104 = .ok (.iaload, 1) := by decide +kernel
theorem dX0_liveDay_105 : decode cX0_liveDay 105 = .ok (.invokevirtual 102, 3) := by decide +kernel
theorem dX0_liveDay_108 : decode cX0_liveDay 108 = .ok (.iload_n 1, 1) := by decide +kernel
theorem dX0_liveDay_109 : decode cX0_liveDay 109 = .ok (.ireturn, 1) := by decide +kernel
theorem dX0_draw_0 : decode cX0_draw 0 = .ok (.aload_n 0, 1) := by decide +kernel
theorem dX0_draw_1 : decode cX0_draw 1 = .ok (.aload_n 0, 1) := by decide +kernel
theorem dX0_draw_2 : decode cX0_draw 2 = .ok (.getfield 69, 3) := by decide +kernel
theorem dX0_draw_5 : decode cX0_draw 5 = .ok (.i2l, 1) := by decide +kernel
theorem dX0_draw_6 : decode cX0_draw 6 = .ok (.ldc2_w 105, 3) := by decide +kernel
theorem dX0_draw_9 : decode cX0_draw 9 = .ok (.lmul, 1) := by decide +kernel
theorem dX0_draw_10 : decode cX0_draw 10 = .ok (.ldc2_w 107, 3) := by decide +kernel
theorem dX0_draw_13 : decode cX0_draw 13 = .ok (.ladd, 1) := by decide +kernel
theorem dX0_draw_14 : decode cX0_draw 14 = .ok (.ldc2_w 109, 3) := by decide +kernel
theorem dX0_draw_17 : decode cX0_draw 17 = .ok (.land, 1) := by decide +kernel
theorem dX0_draw_18 : decode cX0_draw 18 = .ok (.l2i, 1) := by decide +kernel
theorem dX0_draw_19 : decode cX0_draw 19 = .ok (.putfield 69, 3) := by decide +kernel
theorem dX0_draw_22 : decode cX0_draw 22 = .ok (.iload_n 1, 1) := by decide +kernel
theorem dX0_draw_23 : decode cX0_draw 23 = .ok (.ifCond .le 15, 3) := by decide +kernel
theorem dX0_draw_26 : decode cX0_draw 26 = .ok (.aload_n 0, 1) := by decide +kernel
theorem dX0_draw_27 : decode cX0_draw 27 = .ok (.getfield 69, 3) := by decide +kernel
theorem dX0_draw_30 : decode cX0_draw 30 = .ok (.ldc 111, 2) := by decide +kernel
theorem dX0_draw_32 : decode cX0_draw 32 = .ok (.idiv, 1) := by decide +kernel
theorem dX0_draw_33 : decode cX0_draw 33 = .ok (.iload_n 1, 1) := by decide +kernel
theorem dX0_draw_34 : decode cX0_draw 34 = .ok (.irem, 1) := by decide +kernel
theorem dX0_draw_35 : decode cX0_draw 35 = .ok (.goto 4, 3) := by decide +kernel
theorem dX0_draw_38 : decode cX0_draw 38 = .ok (.iconst 0, 1) := by decide +kernel
theorem dX0_draw_39 : decode cX0_draw 39 = .ok (.ireturn, 1) := by decide +kernel
theorem dX0_whoIsAhead_0 : decode cX0_whoIsAhead 0 = .ok (.iconst 0, 1) := by decide +kernel
theorem dX0_whoIsAhead_1 : decode cX0_whoIsAhead 1 = .ok (.istore_n 1, 1) := by decide +kernel
theorem dX0_whoIsAhead_2 : decode cX0_whoIsAhead 2 = .ok (.iconst 1, 1) := by decide +kernel
theorem dX0_whoIsAhead_3 : decode cX0_whoIsAhead 3 = .ok (.istore_n 2, 1) := by decide +kernel
theorem dX0_whoIsAhead_4 : decode cX0_whoIsAhead 4 = .ok (.iload_n 2, 1) := by decide +kernel
theorem dX0_whoIsAhead_5 : decode cX0_whoIsAhead 5 = .ok (.aload_n 0, 1) := by decide +kernel
theorem dX0_whoIsAhead_6 : decode cX0_whoIsAhead 6 = .ok (.getfield 9, 3) := by decide +kernel
theorem dX0_whoIsAhead_9 : decode cX0_whoIsAhead 9 = .ok (.getfield 72, 3) := by decide +kernel
theorem dX0_whoIsAhead_12 : decode cX0_whoIsAhead 12 = .ok (.if_icmp .ge 70, 3) := by decide +kernel
theorem dX0_whoIsAhead_15 : decode cX0_whoIsAhead 15 = .ok (.aload_n 0, 1) := by decide +kernel
theorem dX0_whoIsAhead_16 : decode cX0_whoIsAhead 16 = .ok (.getfield 20, 3) := by decide +kernel
theorem dX0_whoIsAhead_19 : decode cX0_whoIsAhead 19 = .ok (.getfield 88, 3) := by decide +kernel
theorem dX0_whoIsAhead_22 : decode cX0_whoIsAhead 22 = .ok (.iconst 1, 1) := by decide +kernel
theorem dX0_whoIsAhead_23 : decode cX0_whoIsAhead 23 = .ok (.if_icmp .ne 26, 3) := by decide +kernel
theorem dX0_whoIsAhead_26 : decode cX0_whoIsAhead 26 = .ok (.aload_n 0, 1) := by decide +kernel
theorem dX0_whoIsAhead_27 : decode cX0_whoIsAhead 27 = .ok (.getfield 37, 3) := by decide +kernel
theorem dX0_whoIsAhead_30 : decode cX0_whoIsAhead 30 = .ok (.iload_n 2, 1) := by decide +kernel
theorem dX0_whoIsAhead_31 : decode cX0_whoIsAhead 31 = .ok (.iaload, 1) := by decide +kernel
theorem dX0_whoIsAhead_32 : decode cX0_whoIsAhead 32 = .ok (.aload_n 0, 1) := by decide +kernel
theorem dX0_whoIsAhead_33 : decode cX0_whoIsAhead 33 = .ok (.getfield 37, 3) := by decide +kernel
theorem dX0_whoIsAhead_36 : decode cX0_whoIsAhead 36 = .ok (.iload_n 1, 1) := by decide +kernel
theorem dX0_whoIsAhead_37 : decode cX0_whoIsAhead 37 = .ok (.iaload, 1) := by decide +kernel
theorem dX0_whoIsAhead_38 : decode cX0_whoIsAhead 38 = .ok (.if_icmp .le 7, 3) := by decide +kernel
theorem dX0_whoIsAhead_41 : decode cX0_whoIsAhead 41 = .ok (.iconst 1, 1) := by decide +kernel
theorem dX0_whoIsAhead_42 : decode cX0_whoIsAhead 42 = .ok (.goto 27, 3) := by decide +kernel
theorem dX0_whoIsAhead_45 : decode cX0_whoIsAhead 45 = .ok (.iconst 0, 1) := by decide +kernel
theorem dX0_whoIsAhead_46 : decode cX0_whoIsAhead 46 = .ok (.goto 23, 3) := by decide +kernel
theorem dX0_whoIsAhead_49 : decode cX0_whoIsAhead 49 = .ok (.aload_n 0, 1) := by decide +kernel
theorem dX0_whoIsAhead_50 : decode cX0_whoIsAhead 50 = .ok (.getfield 37, 3) := by decide +kernel
theorem dX0_whoIsAhead_53 : decode cX0_whoIsAhead 53 = .ok (.iload_n 2, 1) := by decide +kernel
theorem dX0_whoIsAhead_54 : decode cX0_whoIsAhead 54 = .ok (.iaload, 1) := by decide +kernel
theorem dX0_whoIsAhead_55 : decode cX0_whoIsAhead 55 = .ok (.aload_n 0, 1) := by decide +kernel
theorem dX0_whoIsAhead_56 : decode cX0_whoIsAhead 56 = .ok (.getfield 37, 3) := by decide +kernel
theorem dX0_whoIsAhead_59 : decode cX0_whoIsAhead 59 = .ok (.iload_n 1, 1) := by decide +kernel
theorem dX0_whoIsAhead_60 : decode cX0_whoIsAhead 60 = .ok (.iaload, 1) := by decide +kernel
theorem dX0_whoIsAhead_61 : decode cX0_whoIsAhead 61 = .ok (.if_icmp .ge 7, 3) := by decide +kernel
theorem dX0_whoIsAhead_64 : decode cX0_whoIsAhead 64 = .ok (.iconst 1, 1) := by decide +kernel
theorem dX0_whoIsAhead_65 : decode cX0_whoIsAhead 65 = .ok (.goto 4, 3) := by decide +kernel
theorem dX0_whoIsAhead_68 : decode cX0_whoIsAhead 68 = .ok (.iconst 0, 1) := by decide +kernel
theorem dX0_whoIsAhead_69 : decode cX0_whoIsAhead 69 = .ok (.istore_n 3, 1) := by decide +kernel
theorem dX0_whoIsAhead_70 : decode cX0_whoIsAhead 70 = .ok (.iload_n 3, 1) := by decide +kernel
theorem dX0_whoIsAhead_71 : decode cX0_whoIsAhead 71 = .ok (.ifCond .eq 5, 3) := by decide +kernel
theorem dX0_whoIsAhead_74 : decode cX0_whoIsAhead 74 = .ok (.iload_n 2, 1) := by decide +kernel
theorem dX0_whoIsAhead_75 : decode cX0_whoIsAhead 75 = .ok (.istore_n 1, 1) := by decide +kernel
theorem dX0_whoIsAhead_76 : decode cX0_whoIsAhead 76 = .ok (.iinc 2 1, 3) := by decide +kernel
theorem dX0_whoIsAhead_79 : decode cX0_whoIsAhead 79 = .ok (.goto (-75), 3) := by decide +kernel
theorem dX0_whoIsAhead_82 : decode cX0_whoIsAhead 82 = .ok (.iload_n 1, 1) := by decide +kernel
theorem dX0_whoIsAhead_83 : decode cX0_whoIsAhead 83 = .ok (.ireturn, 1) := by decide +kernel
theorem dX0_keepRuler_0 : decode cX0_keepRuler 0 = .ok (.aload_n 0, 1) := by decide +kernel
theorem dX0_keepRuler_1 : decode cX0_keepRuler 1 = .ok (.getfield 56, 3) := by decide +kernel
theorem dX0_keepRuler_4 : decode cX0_keepRuler 4 = .ok (.sipush 200, 3) := by decide +kernel
theorem dX0_keepRuler_7 : decode cX0_keepRuler 7 = .ok (.if_icmp .ge 38, 3) := by decide +kernel
theorem dX0_keepRuler_10 : decode cX0_keepRuler 10 = .ok (.aload_n 0, 1) := by decide +kernel
theorem dX0_keepRuler_11 : decode cX0_keepRuler 11 = .ok (.getfield 31, 3) := by decide +kernel
theorem dX0_keepRuler_14 : decode cX0_keepRuler 14 = .ok (.aload_n 0, 1) := by decide +kernel
theorem dX0_keepRuler_15 : decode cX0_keepRuler 15 = .ok (.getfield 56, 3) := by decide +kernel
theorem dX0_keepRuler_18 : decode cX0_keepRuler 18 = .ok (.iload_n 1, 1) := by decide +kernel
theorem dX0_keepRuler_19 : decode cX0_keepRuler 19 = .ok (.iastore, 1) := by decide +kernel
theorem dX0_keepRuler_20 : decode cX0_keepRuler 20 = .ok (.aload_n 0, 1) := by decide +kernel
theorem dX0_keepRuler_21 : decode cX0_keepRuler 21 = .ok (.getfield 34, 3) := by decide +kernel
theorem dX0_keepRuler_24 : decode cX0_keepRuler 24 = .ok (.aload_n 0, 1) := by decide +kernel
theorem dX0_keepRuler_25 : decode cX0_keepRuler 25 = .ok (.getfield 56, 3) := by decide +kernel
theorem dX0_keepRuler_28 : decode cX0_keepRuler 28 = .ok (.aload_n 0, 1) := by decide +kernel
theorem dX0_keepRuler_29 : decode cX0_keepRuler 29 = .ok (.getfield 37, 3) := by decide +kernel
theorem dX0_keepRuler_32 : decode cX0_keepRuler 32 = .ok (.iload_n 1, 1) := by decide +kernel
theorem dX0_keepRuler_33 : decode cX0_keepRuler 33 = .ok (.iaload, 1) := by decide +kernel
theorem dX0_keepRuler_34 : decode cX0_keepRuler 34 = .ok (.iastore, 1) := by decide +kernel
theorem dX0_keepRuler_35 : decode cX0_keepRuler 35 = .ok (.aload_n 0, 1) := by decide +kernel
theorem dX0_keepRuler_36 : decode cX0_keepRuler 36 = .ok (.dup, 1) := by decide +kernel
theorem dX0_keepRuler_37 : decode cX0_keepRuler 37 = .ok (.getfield 56, 3) := by decide +kernel
theorem dX0_keepRuler_40 : decode cX0_keepRuler 40 = .ok (.iconst 1, 1) := by decide +kernel
theorem dX0_keepRuler_41 : decode cX0_keepRuler 41 = .ok (.iadd, 1) := by decide +kernel
theorem dX0_keepRuler_42 : decode cX0_keepRuler 42 = .ok (.putfield 56, 3) := by decide +kernel
theorem dX0_keepRuler_45 : decode cX0_keepRuler 45 = .ok (.return_, 1) := by decide +kernel
theorem dX0_countDayOf_0 : decode cX0_countDayOf 0 = .ok (.aload_n 0, 1) := by decide +kernel
theorem dX0_countDayOf_1 : decode cX0_countDayOf 1 = .ok (.getfield 24, 3) := by decide +kernel
theorem dX0_countDayOf_4 : decode cX0_countDayOf 4 = .ok (.iload_n 1, 1) := by decide +kernel
theorem dX0_countDayOf_5 : decode cX0_countDayOf 5 = .ok (.iaload, 1) := by decide +kernel
theorem dX0_countDayOf_6 : decode cX0_countDayOf 6 = .ok (.iconst 1, 1) := by decide +kernel
theorem dX0_countDayOf_7 : decode cX0_countDayOf 7 = .ok (.iadd, 1) := by decide +kernel
theorem dX0_countDayOf_8 : decode cX0_countDayOf 8 = .ok (.istore_n 2, 1) := by decide +kernel
theorem dX0_countDayOf_9 : decode cX0_countDayOf 9 = .ok (.aload_n 0, 1) := by decide +kernel
theorem dX0_countDayOf_10 : decode cX0_countDayOf 10 = .ok (.getfield 24, 3) := by decide +kernel
theorem dX0_countDayOf_13 : decode cX0_countDayOf 13 = .ok (.iconst 0, 1) := by decide +kernel
theorem dX0_countDayOf_14 : decode cX0_countDayOf 14 = .ok (.invokestatic 47, 3) := by decide +kernel
theorem dX0_countDayOf_17 : decode cX0_countDayOf 17 = .ok (.iload_n 2, 1) := by decide +kernel
theorem dX0_countDayOf_18 : decode cX0_countDayOf 18 = .ok (.aload_n 0, 1) := by decide +kernel
theorem dX0_countDayOf_19 : decode cX0_countDayOf 19 = .ok (.getfield 9, 3) := by decide +kernel
theorem dX0_countDayOf_22 : decode cX0_countDayOf 22 = .ok (.getfield 112, 3) := by decide +kernel
theorem dX0_countDayOf_25 : decode cX0_countDayOf 25 = .ok (.iload_n 1, 1) := by decide +kernel
theorem dX0_countDayOf_26 : decode cX0_countDayOf 26 = .ok (.iaload, 1) := by decide +kernel
theorem dX0_countDayOf_27 : decode cX0_countDayOf 27 = .ok (.if_icmp .lt 34, 3) := by decide +kernel
theorem dX0_countDayOf_30 : decode cX0_countDayOf 30 = .ok (.aload_n 0, 1) := by decide +kernel
theorem dX0_countDayOf_31 : decode cX0_countDayOf 31 = .ok (.getfield 28, 3) := by decide +kernel
theorem dX0_countDayOf_34 : decode cX0_countDayOf 34 = .ok (.iload_n 1, 1) := by decide +kernel
theorem dX0_countDayOf_35 : decode cX0_countDayOf 35 = .ok (.dup2, 1) := by decide +kernel
theorem dX0_countDayOf_36 : decode cX0_countDayOf 36 = .ok (.iaload, 1) := by decide +kernel
theorem dX0_countDayOf_37 : decode cX0_countDayOf 37 = .ok (.iconst 1, 1) := by decide +kernel
theorem dX0_countDayOf_38 : decode cX0_countDayOf 38 = .ok (.iadd, 1) := by decide +kernel
theorem dX0_countDayOf_39 : decode cX0_countDayOf 39 = .ok (.iastore, 1) := by decide +kernel
theorem dX0_countDayOf_40 : decode cX0_countDayOf 40 = .ok (.aload_n 0, 1) := by decide +kernel
theorem dX0_countDayOf_41 : decode cX0_countDayOf 41 = .ok (.dup, 1) := by decide +kernel
theorem dX0_countDayOf_42 : decode cX0_countDayOf 42 = .ok (.getfield 53, 3) := by decide +kernel
theorem dX0_countDayOf_45 : decode cX0_countDayOf 45 = .ok (.aload_n 0, 1) := by decide +kernel
theorem dX0_countDayOf_46 : decode cX0_countDayOf 46 = .ok (.getfield 9, 3) := by decide +kernel
theorem dX0_countDayOf_49 : decode cX0_countDayOf 49 = .ok (.getfield 115, 3) := by decide +kernel
theorem dX0_countDayOf_52 : decode cX0_countDayOf 52 = .ok (.iload_n 1, 1) := by decide +kernel
theorem dX0_countDayOf_53 : decode cX0_countDayOf 53 = .ok (.iaload, 1) := by decide +kernel
theorem dX0_countDayOf_54 : decode cX0_countDayOf 54 = .ok (.iadd, 1) := by decide +kernel
theorem dX0_countDayOf_55 : decode cX0_countDayOf 55 = .ok (.putfield 53, 3) := by decide +kernel
theorem dX0_countDayOf_58 : decode cX0_countDayOf 58 = .ok (.goto 10, 3) := by decide +kernel
theorem dX0_countDayOf_61 : decode cX0_countDayOf 61 = .ok (.aload_n 0, 1) := by decide +kernel
theorem dX0_countDayOf_62 : decode cX0_countDayOf 62 = .ok (.getfield 24, 3) := by decide +kernel
theorem dX0_countDayOf_65 : decode cX0_countDayOf 65 = .ok (.iload_n 1, 1) := by decide +kernel
theorem dX0_countDayOf_66 : decode cX0_countDayOf 66 = .ok (.iload_n 2, 1) := by decide +kernel
theorem dX0_countDayOf_67 : decode cX0_countDayOf 67 = .ok (.iastore, 1) := by decide +kernel
theorem dX0_countDayOf_68 : decode cX0_countDayOf 68 = .ok (.return_, 1) := by decide +kernel
theorem dX1_init_0 : decode cX1_init 0 = .ok (.aload_n 0, 1) := by decide +kernel
theorem dX1_init_1 : decode cX1_init 1 = .ok (.invokespecial 3, 3) := by decide +kernel
theorem dX1_init_4 : decode cX1_init 4 = .ok (.aload_n 0, 1) := by decide +kernel
theorem dX1_init_5 : decode cX1_init 5 = .ok (.aload_n 1, 1) := by decide +kernel
theorem dX1_init_6 : decode cX1_init 6 = .ok (.putfield 9, 3) := by decide +kernel
theorem dX1_init_9 : decode cX1_init 9 = .ok (.aload_n 0, 1) := by decide +kernel
theorem dX1_init_10 : decode cX1_init 10 = .ok (.bipush 8, 2) := by decide +kernel
theorem dX1_init_12 : decode cX1_init 12 = .ok (.newarray .int, 2) := by decide +kernel
theorem dX1_init_14 : decode cX1_init 14 = .ok (.putfield 15, 3) := by decide +kernel
theorem dX1_init_17 : decode cX1_init 17 = .ok (.aload_n 0, 1) := by decide +kernel
theorem dX1_init_18 : decode cX1_init 18 = .ok (.iconst (-1), 1) := by decide +kernel
theorem dX1_init_19 : decode cX1_init 19 = .ok (.putfield 19, 3) := by decide +kernel
theorem dX1_init_22 : decode cX1_init 22 = .ok (.aload_n 0, 1) := by decide +kernel
theorem dX1_init_23 : decode cX1_init 23 = .ok (.iconst (-1), 1) := by decide +kernel
theorem dX1_init_24 : decode cX1_init 24 = .ok (.putfield 23, 3) := by decide +kernel
theorem dX1_init_27 : decode cX1_init 27 = .ok (.aload_n 0, 1) := by decide +kernel
theorem dX1_init_28 : decode cX1_init 28 = .ok (.iconst (-1), 1) := by decide +kernel
theorem dX1_init_29 : decode cX1_init 29 = .ok (.putfield 26, 3) := by decide +kernel
theorem dX1_init_32 : decode cX1_init 32 = .ok (.aload_n 0, 1) := by decide +kernel
theorem dX1_init_33 : decode cX1_init 33 = .ok (.bipush 8, 2) := by decide +kernel
theorem dX1_init_35 : decode cX1_init 35 = .ok (.newarray .int, 2) := by decide +kernel
theorem dX1_init_37 : decode cX1_init 37 = .ok (.putfield 29, 3) := by decide +kernel
theorem dX1_init_40 : decode cX1_init 40 = .ok (.aload_n 0, 1) := by decide +kernel
theorem dX1_init_41 : decode cX1_init 41 = .ok (.bipush 8, 2) := by decide +kernel
theorem dX1_init_43 : decode cX1_init 43 = .ok (.newarray .int, 2) := by decide +kernel
theorem dX1_init_45 : decode cX1_init 45 = .ok (.putfield 32, 3) := by decide +kernel
theorem dX1_init_48 : decode cX1_init 48 = .ok (.aload_n 0, 1) := by decide +kernel
theorem dX1_init_49 : decode cX1_init 49 = .ok (.bipush 8, 2) := by decide +kernel
theorem dX1_init_51 : decode cX1_init 51 = .ok (.newarray .int, 2) := by decide +kernel
theorem dX1_init_53 : decode cX1_init 53 = .ok (.putfield 35, 3) := by decide +kernel
theorem dX1_init_56 : decode cX1_init 56 = .ok (.return_, 1) := by decide +kernel
theorem dX1_beginAnew_0 : decode cX1_beginAnew 0 = .ok (.aload_n 0, 1) := by decide +kernel
theorem dX1_beginAnew_1 : decode cX1_beginAnew 1 = .ok (.getfield 15, 3) := by decide +kernel
theorem dX1_beginAnew_4 : decode cX1_beginAnew 4 = .ok (.iconst 0, 1) := by decide +kernel
theorem dX1_beginAnew_5 : decode cX1_beginAnew 5 = .ok (.invokestatic 38, 3) := by decide +kernel
theorem dX1_beginAnew_8 : decode cX1_beginAnew 8 = .ok (.aload_n 0, 1) := by decide +kernel
theorem dX1_beginAnew_9 : decode cX1_beginAnew 9 = .ok (.iconst 0, 1) := by decide +kernel
theorem dX1_beginAnew_10 : decode cX1_beginAnew 10 = .ok (.putfield 44, 3) := by decide +kernel
theorem dX1_beginAnew_13 : decode cX1_beginAnew 13 = .ok (.aload_n 0, 1) := by decide +kernel
theorem dX1_beginAnew_14 : decode cX1_beginAnew 14 = .ok (.iconst (-1), 1) := by decide +kernel
theorem dX1_beginAnew_15 : decode cX1_beginAnew 15 = .ok (.iconst (-1), 1) := by decide +kernel
theorem dX1_beginAnew_16 : decode cX1_beginAnew 16 = .ok (.iconst (-1), 1) := by decide +kernel
theorem dX1_beginAnew_17 : decode cX1_beginAnew 17 = .ok (.invokevirtual 47, 3) := by decide +kernel
theorem dX1_beginAnew_20 : decode cX1_beginAnew 20 = .ok (.return_, 1) := by decide +kernel
theorem dX1_copyFrom_0 : decode cX1_copyFrom 0 = .ok (.aload_n 1, 1) := by decide +kernel
theorem dX1_copyFrom_1 : decode cX1_copyFrom 1 = .ok (.getfield 15, 3) := by decide +kernel
theorem dX1_copyFrom_4 : decode cX1_copyFrom 4 = .ok (.iconst 0, 1) := by decide +kernel
theorem dX1_copyFrom_5 : decode cX1_copyFrom 5 = .ok (.aload_n 0, 1) := by decide +kernel
theorem dX1_copyFrom_6 : decode cX1_copyFrom 6 = .ok (.getfield 15, 3) := by decide +kernel
theorem dX1_copyFrom_9 : decode cX1_copyFrom 9 = .ok (.iconst 0, 1) := by decide +kernel
theorem dX1_copyFrom_10 : decode cX1_copyFrom 10 = .ok (.bipush 8, 2) := by decide +kernel
theorem dX1_copyFrom_12 : decode cX1_copyFrom 12 = .ok (.invokestatic 51, 3) := by decide +kernel
theorem dX1_copyFrom_15 : decode cX1_copyFrom 15 = .ok (.aload_n 0, 1) := by decide +kernel
theorem dX1_copyFrom_16 : decode cX1_copyFrom 16 = .ok (.aload_n 1, 1) := by decide +kernel
theorem dX1_copyFrom_17 : decode cX1_copyFrom 17 = .ok (.getfield 44, 3) := by decide +kernel
theorem dX1_copyFrom_20 : decode cX1_copyFrom 20 = .ok (.putfield 44, 3) := by decide +kernel
theorem dX1_copyFrom_23 : decode cX1_copyFrom 23 = .ok (.aload_n 0, 1) := by decide +kernel
theorem dX1_copyFrom_24 : decode cX1_copyFrom 24 = .ok (.aload_n 1, 1) := by decide +kernel
theorem dX1_copyFrom_25 : decode cX1_copyFrom 25 = .ok (.getfield 19, 3) := by decide +kernel
theorem dX1_copyFrom_28 : decode cX1_copyFrom 28 = .ok (.aload_n 1, 1) := by decide +kernel
theorem dX1_copyFrom_29 : decode cX1_copyFrom 29 = .ok (.getfield 23, 3) := by decide +kernel
theorem dX1_copyFrom_32 : decode cX1_copyFrom 32 = .ok (.aload_n 1, 1) := by decide +kernel
theorem dX1_copyFrom_33 : decode cX1_copyFrom 33 = .ok (.getfield 26, 3) := by decide +kernel
theorem dX1_copyFrom_36 : decode cX1_copyFrom 36 = .ok (.invokevirtual 47, 3) := by decide +kernel
theorem dX1_copyFrom_39 : decode cX1_copyFrom 39 = .ok (.return_, 1) := by decide +kernel
theorem dX1_isNoisy_0 : decode cX1_isNoisy 0 = .ok (.aload_n 0, 1) := by decide +kernel
theorem dX1_isNoisy_1 : decode cX1_isNoisy 1 = .ok (.getfield 19, 3) := by decide +kernel
theorem dX1_isNoisy_4 : decode cX1_isNoisy 4 = .ok (.iconst (-1), 1) := by decide +kernel
theorem dX1_isNoisy_5 : decode cX1_isNoisy 5 = .ok (.if_icmp .eq 7, 3) := by decide +kernel
theorem dX1_isNoisy_8 : decode cX1_isNoisy 8 = .ok (.iconst 1, 1) := by decide +kernel
theorem dX1_isNoisy_9 : decode cX1_isNoisy 9 = .ok (.goto 4, 3) := by decide +kernel
theorem dX1_isNoisy_12 : decode cX1_isNoisy 12 = .ok (.iconst 0, 1) := by decide +kernel
theorem dX1_isNoisy_13 : decode cX1_isNoisy 13 = .ok (.ireturn, 1) := by decide +kernel
theorem dX1_makeNoise_0 : decode cX1_makeNoise 0 = .ok (.aload_n 0, 1) := by decide +kernel
theorem dX1_makeNoise_1 : decode cX1_makeNoise 1 = .ok (.iload_n 1, 1) := by decide +kernel
theorem dX1_makeNoise_2 : decode cX1_makeNoise 2 = .ok (.putfield 19, 3) := by decide +kernel
theorem dX1_makeNoise_5 : decode cX1_makeNoise 5 = .ok (.aload_n 0, 1) := by decide +kernel
theorem dX1_makeNoise_6 : decode cX1_makeNoise 6 = .ok (.iload_n 2, 1) := by decide +kernel
theorem dX1_makeNoise_7 : decode cX1_makeNoise 7 = .ok (.putfield 23, 3) := by decide +kernel
theorem dX1_makeNoise_10 : decode cX1_makeNoise 10 = .ok (.aload_n 0, 1) := by decide +kernel
theorem dX1_makeNoise_11 : decode cX1_makeNoise 11 = .ok (.iload_n 3, 1) := by decide +kernel
theorem dX1_makeNoise_12 : decode cX1_makeNoise 12 = .ok (.putfield 26, 3) := by decide +kernel
theorem dX1_makeNoise_15 : decode cX1_makeNoise 15 = .ok (.iconst 0, 1) := by decide +kernel
theorem dX1_makeNoise_16 : decode cX1_makeNoise 16 = .ok (.istore 4, 2) := by decide +kernel
theorem dX1_makeNoise_18 : decode cX1_makeNoise 18 = .ok (.iload 4, 2) := by decide +kernel
theorem dX1_makeNoise_20 : decode cX1_makeNoise 20 = .ok (.aload_n 0, 1) := by decide +kernel
theorem dX1_makeNoise_21 : decode cX1_makeNoise 21 = .ok (.getfield 9, 3) := by decide +kernel
theorem dX1_makeNoise_24 : decode cX1_makeNoise 24 = .ok (.getfield 57, 3) := by decide +kernel
theorem dX1_makeNoise_27 : decode cX1_makeNoise 27 = .ok (.if_icmp .ge 15, 3) := by decide +kernel
theorem dX1_makeNoise_30 : decode cX1_makeNoise 30 = .ok (.aload_n 0, 1) := by decide +kernel
theorem dX1_makeNoise_31 : decode cX1_makeNoise 31 = .ok (.iload 4, 2) := by decide +kernel
theorem dX1_makeNoise_33 : decode cX1_makeNoise 33 = .ok (.invokevirtual 62, 3) := by decide +kernel
theorem dX1_makeNoise_36 : decode cX1_makeNoise 36 = .ok (.iinc 4 1, 3) := by decide +kernel
theorem dX1_makeNoise_39 : decode cX1_makeNoise 39 = .ok (.goto (-21), 3) := by decide +kernel
theorem dX1_makeNoise_42 : decode cX1_makeNoise 42 = .ok (.return_, 1) := by decide +kernel
theorem dX1_shiftOne_0 : decode cX1_shiftOne 0 = .ok (.aload_n 0, 1) := by decide +kernel
theorem dX1_shiftOne_1 : decode cX1_shiftOne 1 = .ok (.getfield 15, 3) := by decide +kernel
theorem dX1_shiftOne_4 : decode cX1_shiftOne 4 = .ok (.iload_n 1, 1) := by decide +kernel
theorem dX1_shiftOne_5 : decode cX1_shiftOne 5 = .ok (.iload_n 2, 1) := by decide +kernel
theorem dX1_shiftOne_6 : decode cX1_shiftOne 6 = .ok (.iastore, 1) := by decide +kernel
theorem dX1_shiftOne_7 : decode cX1_shiftOne 7 = .ok (.aload_n 0, 1) := by decide +kernel
theorem dX1_shiftOne_8 : decode cX1_shiftOne 8 = .ok (.iload_n 1, 1) := by decide +kernel
theorem dX1_shiftOne_9 : decode cX1_shiftOne 9 = .ok (.invokevirtual 62, 3) := by decide +kernel
theorem dX1_shiftOne_12 : decode cX1_shiftOne 12 = .ok (.return_, 1) := by decide +kernel
theorem dX1_shiftHouse_0 : decode cX1_shiftHouse 0 = .ok (.iconst 0, 1) := by decide +kernel
theorem dX1_shiftHouse_1 : decode cX1_shiftHouse 1 = .ok (.istore_n 3, 1) := by decide +kernel
theorem dX1_shiftHouse_2 : decode cX1_shiftHouse 2 = .ok (.iconst 0, 1) := by decide +kernel
theorem dX1_shiftHouse_3 : decode cX1_shiftHouse 3 = .ok (.istore 4, 2) := by decide +kernel
theorem dX1_shiftHouse_5 : decode cX1_shiftHouse 5 = .ok (.iload 4, 2) := by decide +kernel
theorem dX1_shiftHouse_7 : decode cX1_shiftHouse 7 = .ok (.aload_n 0, 1) := by decide +kernel
theorem dX1_shiftHouse_8 : decode cX1_shiftHouse 8 = .ok (.getfield 9, 3) := by decide +kernel
theorem dX1_shiftHouse_11 : decode cX1_shiftHouse 11 = .ok (.getfield 57, 3) := by decide +kernel
theorem dX1_shiftHouse_14 : decode cX1_shiftHouse 14 = .ok (.if_icmp .ge 43, 3) := by decide +kernel
theorem dX1_shiftHouse_17 : decode cX1_shiftHouse 17 = .ok (.aload_n 0, 1) := by decide +kernel
theorem dX1_shiftHouse_18 : decode cX1_shiftHouse 18 = .ok (.getfield 9, 3) := by decide +kernel
theorem dX1_shiftHouse_21 : decode cX1_shiftHouse 21 = .ok (.getfield 66, 3) := by decide +kernel
theorem dX1_shiftHouse_24 : decode cX1_shiftHouse 24 = .ok (.iload 4, 2) := by decide +kernel
theorem dX1_shiftHouse_26 : decode cX1_shiftHouse 26 = .ok (.iaload, 1) := by decide +kernel
theorem dX1_shiftHouse_27 : decode cX1_shiftHouse 27 = .ok (.iload_n 1, 1) := by decide +kernel
theorem dX1_shiftHouse_28 : decode cX1_shiftHouse 28 = .ok (.if_icmp .ne 23, 3) := by decide +kernel
theorem dX1_shiftHouse_31 : decode cX1_shiftHouse 31 = .ok (.aload_n 0, 1) := by decide +kernel
theorem dX1_shiftHouse_32 : decode cX1_shiftHouse 32 = .ok (.getfield 15, 3) := by decide +kernel
theorem dX1_shiftHouse_35 : decode cX1_shiftHouse 35 = .ok (.iload 4, 2) := by decide +kernel
theorem dX1_shiftHouse_37 : decode cX1_shiftHouse 37 = .ok (.iaload, 1) := by decide +kernel
theorem dX1_shiftHouse_38 : decode cX1_shiftHouse 38 = .ok (.iload_n 2, 1) := by decide +kernel
theorem dX1_shiftHouse_39 : decode cX1_shiftHouse 39 = .ok (.if_icmp .eq 12, 3) := by decide +kernel
theorem dX1_shiftHouse_42 : decode cX1_shiftHouse 42 = .ok (.aload_n 0, 1) := by decide +kernel
theorem dX1_shiftHouse_43 : decode cX1_shiftHouse 43 = .ok (.iload 4, 2) := by decide +kernel
theorem dX1_shiftHouse_45 : decode cX1_shiftHouse 45 = .ok (.iload_n 2, 1) := by decide +kernel
theorem dX1_shiftHouse_46 : decode cX1_shiftHouse 46 = .ok (.invokevirtual 69, 3) := by decide +kernel
theorem dX1_shiftHouse_49 : decode cX1_shiftHouse 49 = .ok (.iconst 1, 1) := by decide +kernel
theorem dX1_shiftHouse_50 : decode cX1_shiftHouse 50 = .ok (.istore_n 3, 1) := by decide +kernel
theorem dX1_shiftHouse_51 : decode cX1_shiftHouse 51 = .ok (.iinc 4 1, 3) := by decide +kernel
theorem dX1_shiftHouse_54 : decode cX1_shiftHouse 54 = .ok (.goto (-49), 3) := by decide +kernel
theorem dX1_shiftHouse_57 : decode cX1_shiftHouse 57 = .ok (.iload_n 3, 1) := by decide +kernel
theorem dX1_shiftHouse_58 : decode cX1_shiftHouse 58 = .ok (.ireturn, 1) := by decide +kernel
theorem dX1_layOut_0 : decode cX1_layOut 0 = .ok (.aload_n 0, 1) := by decide +kernel
theorem dX1_layOut_1 : decode cX1_layOut 1 = .ok (.getfield 9, 3) := by decide +kernel
theorem dX1_layOut_4 : decode cX1_layOut 4 = .ok (.getfield 73, 3) := by decide +kernel
theorem dX1_layOut_7 : decode cX1_layOut 7 = .ok (.iload_n 1, 1) := by decide +kernel
theorem dX1_layOut_8 : decode cX1_layOut 8 = .ok (.iaload, 1) := by decide +kernel
theorem dX1_layOut_9 : decode cX1_layOut 9 = .ok (.aload_n 0, 1) := by decide +kernel
theorem dX1_layOut_10 : decode cX1_layOut 10 = .ok (.getfield 15, 3) := by decide +kernel
theorem dX1_layOut_13 : decode cX1_layOut 13 = .ok (.iload_n 1, 1) := by decide +kernel
theorem dX1_layOut_14 : decode cX1_layOut 14 = .ok (.iaload, 1) := by decide +kernel
theorem dX1_layOut_15 : decode cX1_layOut 15 = .ok (.isub, 1) := by decide +kernel
theorem dX1_layOut_16 : decode cX1_layOut 16 = .ok (.istore_n 2, 1) := by decide +kernel
theorem dX1_layOut_17 : decode cX1_layOut 17 = .ok (.aload_n 0, 1) := by decide +kernel
theorem dX1_layOut_18 : decode cX1_layOut 18 = .ok (.getfield 29, 3) := by decide +kernel
theorem dX1_layOut_21 : decode cX1_layOut 21 = .ok (.iload_n 1, 1) := by decide +kernel
theorem dX1_layOut_22 : decode cX1_layOut 22 = .ok (.iload_n 2, 1) := by decide +kernel
theorem dX1_layOut_23 : decode cX1_layOut 23 = .ok (.aload_n 0, 1) := by decide +kernel
theorem dX1_layOut_24 : decode cX1_layOut 24 = .ok (.getfield 9, 3) := by decide +kernel
theorem dX1_layOut_27 : decode cX1_layOut 27 = .ok (.getfield 76, 3) := by decide +kernel
theorem dX1_layOut_30 : decode cX1_layOut 30 = .ok (.iload_n 1, 1) := by decide +kernel
theorem dX1_layOut_31 : decode cX1_layOut 31 = .ok (.iaload, 1) := by decide +kernel
theorem dX1_layOut_32 : decode cX1_layOut 32 = .ok (.isub, 1) := by decide +kernel
theorem dX1_layOut_33 : decode cX1_layOut 33 = .ok (.iastore, 1) := by decide +kernel
theorem dX1_layOut_34 : decode cX1_layOut 34 = .ok (.aload_n 0, 1) := by decide +kernel
theorem dX1_layOut_35 : decode cX1_layOut 35 = .ok (.getfield 32, 3) := by decide +kernel
theorem dX1_layOut_38 : decode cX1_layOut 38 = .ok (.iload_n 1, 1) := by decide +kernel
theorem dX1_layOut_39 : decode cX1_layOut 39 = .ok (.iload_n 2, 1) := by decide +kernel
theorem dX1_layOut_40 : decode cX1_layOut 40 = .ok (.aload_n 0, 1) := by decide +kernel
theorem dX1_layOut_41 : decode cX1_layOut 41 = .ok (.getfield 9, 3) := by decide +kernel
theorem dX1_layOut_44 : decode cX1_layOut 44 = .ok (.getfield 76, 3) := by decide +kernel
theorem dX1_layOut_47 : decode cX1_layOut 47 = .ok (.iload_n 1, 1) := by decide +kernel
theorem dX1_layOut_48 : decode cX1_layOut 48 = .ok (.iaload, 1) := by decide +kernel
theorem dX1_layOut_49 : decode cX1_layOut 49 = .ok (.iadd, 1) := by decide +kernel
theorem dX1_layOut_50 : decode cX1_layOut 50 = .ok (.iastore, 1) := by decide +kernel
theorem dX1_layOut_51 : decode cX1_layOut 51 = .ok (.aload_n 0, 1) := by decide +kernel
theorem dX1_layOut_52 : decode cX1_layOut 52 = .ok (.getfield 19, 3) := by decide +kernel
theorem dX1_layOut_55 : decode cX1_layOut 55 = .ok (.iconst (-1), 1) := by decide +kernel
theorem dX1_layOut_56 : decode cX1_layOut 56 = .ok (.if_icmp .eq 39, 3) := by decide +kernel
theorem dX1_layOut_59 : decode cX1_layOut 59 = .ok (.aload_n 0, 1) := by decide +kernel
theorem dX1_layOut_60 : decode cX1_layOut 60 = .ok (.getfield 9, 3) := by decide +kernel
theorem dX1_layOut_63 : decode cX1_layOut 63 = .ok (.getfield 66, 3) := by decide +kernel
theorem dX1_layOut_66 : decode cX1_layOut 66 = .ok (.iload_n 1, 1) := by decide +kernel
theorem dX1_layOut_67 : decode cX1_layOut 67 = .ok (.iaload, 1) := by decide +kernel
theorem dX1_layOut_68 : decode cX1_layOut 68 = .ok (.aload_n 0, 1) := by decide +kernel
theorem dX1_layOut_69 : decode cX1_layOut 69 = .ok (.getfield 19, 3) := by decide +kernel
theorem dX1_layOut_72 : decode cX1_layOut 72 = .ok (.if_icmp .eq 23, 3) := by decide +kernel
theorem dX1_layOut_75 : decode cX1_layOut 75 = .ok (.aload_n 0, 1) := by decide +kernel
theorem dX1_layOut_76 : decode cX1_layOut 76 = .ok (.getfield 9, 3) := by decide +kernel
theorem dX1_layOut_79 : decode cX1_layOut 79 = .ok (.getfield 79, 3) := by decide +kernel
theorem dX1_layOut_82 : decode cX1_layOut 82 = .ok (.iload_n 1, 1) := by decide +kernel
theorem dX1_layOut_83 : decode cX1_layOut 83 = .ok (.iaload, 1) := by decide +kernel
theorem dX1_layOut_84 : decode cX1_layOut 84 = .ok (.aload_n 0, 1) := by decide +kernel
theorem dX1_layOut_85 : decode cX1_layOut 85 = .ok (.getfield 26, 3) := by decide +kernel
theorem dX1_layOut_88 : decode cX1_layOut 88 = .ok (.if_icmp .ge 7, 3) := by decide +kernel
theorem dX1_layOut_91 : decode cX1_layOut 91 = .ok (.iconst 1, 1) := by decide +kernel
theorem dX1_layOut_92 : decode cX1_layOut 92 = .ok (.goto 4, 3) := by decide +kernel
theorem dX1_layOut_95 : decode cX1_layOut 95 = .ok (.iconst 0, 1) := by decide +kernel
theorem dX1_layOut_96 : decode cX1_layOut 96 = .ok (.istore_n 3, 1) := by decide +kernel
theorem dX1_layOut_97 : decode cX1_layOut 97 = .ok (.aload_n 0, 1) := by decide +kernel
theorem dX1_layOut_98 : decode cX1_layOut 98 = .ok (.getfield 35, 3) := by decide +kernel
theorem dX1_layOut_101 : decode cX1_layOut 101 = .ok (.iload_n 1, 1) := by decide +kernel
theorem dX1_layOut_102 : decode cX1_layOut 102 = .ok (.iload_n 3, 1) := by decide +kernel
theorem dX1_layOut_103 : decode cX1_layOut 103 = .ok (.ifCond .eq 10, 3) := by decide +kernel
theorem dX1_layOut_106 : decode cX1_layOut 106 = .ok (.aload_n 0, 1) := by decide +kernel
theorem dX1_layOut_107 : decode cX1_layOut 107 = .ok (.getfield 23, 3) := by decide +kernel
theorem dX1_layOut_110 : decode cX1_layOut 110 = .ok (.goto 5, 3) := by decide +kernel
theorem dX1_layOut_113 : decode cX1_layOut 113 = .ok (.ldc 82, 2) := by decide +kernel
theorem dX1_layOut_115 : decode cX1_layOut 115 = .ok (.iastore, 1) := by decide +kernel
theorem dX1_layOut_116 : decode cX1_layOut 116 = .ok (.return_, 1) := by decide +kernel
theorem dX1_heard_0 : decode cX1_heard 0 = .ok (.iload_n 2, 1) := by decide +kernel
theorem dX1_heard_1 : decode cX1_heard 1 = .ok (.aload_n 0, 1) := by decide +kernel
theorem dX1_heard_2 : decode cX1_heard 2 = .ok (.getfield 35, 3) := by decide +kernel
theorem dX1_heard_5 : decode cX1_heard 5 = .ok (.iload_n 1, 1) := by decide +kernel
theorem dX1_heard_6 : decode cX1_heard 6 = .ok (.iaload, 1) := by decide +kernel
theorem dX1_heard_7 : decode cX1_heard 7 = .ok (.if_icmp .ge 7, 3) := by decide +kernel
theorem dX1_heard_10 : decode cX1_heard 10 = .ok (.iload_n 2, 1) := by decide +kernel
theorem dX1_heard_11 : decode cX1_heard 11 = .ok (.goto 9, 3) := by decide +kernel
theorem dX1_heard_14 : decode cX1_heard 14 = .ok (.aload_n 0, 1) := by decide +kernel
theorem dX1_heard_15 : decode cX1_heard 15 = .ok (.getfield 35, 3) := by decide +kernel
theorem dX1_heard_18 : decode cX1_heard 18 = .ok (.iload_n 1, 1) := by decide +kernel
theorem dX1_heard_19 : decode cX1_heard 19 = .ok (.iaload, 1) := by decide +kernel
theorem dX1_heard_20 : decode cX1_heard 20 = .ok (.ireturn, 1) := by decide +kernel
theorem dX1_minuteAt_0 : decode cX1_minuteAt 0 = .ok (.aload_n 0, 1) := by decide +kernel
theorem dX1_minuteAt_1 : decode cX1_minuteAt 1 = .ok (.iload_n 1, 1) := by decide +kernel
theorem dX1_minuteAt_2 : decode cX1_minuteAt 2 = .ok (.aload_n 0, 1) := by decide +kernel
theorem dX1_minuteAt_3 : decode cX1_minuteAt 3 = .ok (.getfield 29, 3) := by decide +kernel
theorem dX1_minuteAt_6 : decode cX1_minuteAt 6 = .ok (.iload_n 1, 1) := by decide +kernel
theorem dX1_minuteAt_7 : decode cX1_minuteAt 7 = .ok (.iaload, 1) := by decide +kernel
theorem dX1_minuteAt_8 : decode cX1_minuteAt 8 = .ok (.iload_n 2, 1) := by decide +kernel
theorem dX1_minuteAt_9 : decode cX1_minuteAt 9 = .ok (.iadd, 1) := by decide +kernel
theorem dX1_minuteAt_10 : decode cX1_minuteAt 10 = .ok (.invokevirtual 83, 3) := by decide +kernel
theorem dX1_minuteAt_13 : decode cX1_minuteAt 13 = .ok (.ireturn, 1) := by decide +kernel
theorem dX1_firstMinute_0 : decode cX1_firstMinute 0 = .ok (.aload_n 0, 1) := by decide +kernel
theorem dX1_firstMinute_1 : decode cX1_firstMinute 1 = .ok (.iload_n 1, 1) := by decide +kernel
theorem dX1_firstMinute_2 : decode cX1_firstMinute 2 = .ok (.aload_n 0, 1) := by decide +kernel
theorem dX1_firstMinute_3 : decode cX1_firstMinute 3 = .ok (.getfield 29, 3) := by decide +kernel
theorem dX1_firstMinute_6 : decode cX1_firstMinute 6 = .ok (.iload_n 1, 1) := by decide +kernel
theorem dX1_firstMinute_7 : decode cX1_firstMinute 7 = .ok (.iaload, 1) := by decide +kernel
theorem dX1_firstMinute_8 : decode cX1_firstMinute 8 = .ok (.invokevirtual 83, 3) := by decide +kernel
theorem dX1_firstMinute_11 : decode cX1_firstMinute 11 = .ok (.ireturn, 1) := by decide +kernel
theorem dX1_lastMinute_0 : decode cX1_lastMinute 0 = .ok (.aload_n 0, 1) := by decide +kernel
theorem dX1_lastMinute_1 : decode cX1_lastMinute 1 = .ok (.iload_n 1, 1) := by decide +kernel
theorem dX1_lastMinute_2 : decode cX1_lastMinute 2 = .ok (.aload_n 0, 1) := by decide +kernel
theorem dX1_lastMinute_3 : decode cX1_lastMinute 3 = .ok (.getfield 32, 3) := by decide +kernel
theorem dX1_lastMinute_6 : decode cX1_lastMinute 6 = .ok (.iload_n 1, 1) := by decide +kernel
theorem dX1_lastMinute_7 : decode cX1_lastMinute 7 = .ok (.iaload, 1) := by decide +kernel
theorem dX1_lastMinute_8 : decode cX1_lastMinute 8 = .ok (.invokevirtual 83, 3) := by decide +kernel
theorem dX1_lastMinute_11 : decode cX1_lastMinute 11 = .ok (.ireturn, 1) := by decide +kernel
theorem dX1_oddsOfHouses_0 : decode cX1_oddsOfHouses 0 = .ok (.iconst 0, 1) := by decide +kernel
theorem dX1_oddsOfHouses_1 : decode cX1_oddsOfHouses 1 = .ok (.istore_n 2, 1) := by decide +kernel
theorem dX1_oddsOfHouses_2 : decode cX1_oddsOfHouses 2 = .ok (.iconst 0, 1) := by decide +kernel
theorem dX1_oddsOfHouses_3 : decode cX1_oddsOfHouses 3 = .ok (.istore_n 3, 1) := by decide +kernel
theorem dX1_oddsOfHouses_4 : decode cX1_oddsOfHouses 4 = .ok (.iload_n 3, 1) := by decide +kernel
theorem dX1_oddsOfHouses_5 : decode cX1_oddsOfHouses 5 = .ok (.aload_n 0, 1) := by decide +kernel
theorem dX1_oddsOfHouses_6 : decode cX1_oddsOfHouses 6 = .ok (.getfield 9, 3) := by decide +kernel
theorem dX1_oddsOfHouses_9 : decode cX1_oddsOfHouses 9 = .ok (.getfield 57, 3) := by decide +kernel
theorem dX1_oddsOfHouses_12 : decode cX1_oddsOfHouses 12 = .ok (.if_icmp .ge 33, 3) := by decide +kernel
theorem dX1_oddsOfHouses_15 : decode cX1_oddsOfHouses 15 = .ok (.iload_n 1, 1) := by decide +kernel
theorem dX1_oddsOfHouses_16 : decode cX1_oddsOfHouses 16 = .ok (.aload_n 0, 1) := by decide +kernel
theorem dX1_oddsOfHouses_17 : decode cX1_oddsOfHouses 17 = .ok (.getfield 9, 3) := by decide +kernel
theorem dX1_oddsOfHouses_20 : decode cX1_oddsOfHouses 20 = .ok (.getfield 66, 3) := by decide +kernel
theorem dX1_oddsOfHouses_23 : decode cX1_oddsOfHouses 23 = .ok (.iload_n 3, 1) := by decide +kernel
theorem dX1_oddsOfHouses_24 : decode cX1_oddsOfHouses 24 = .ok (.iaload, 1) := by decide +kernel
theorem dX1_oddsOfHouses_25 : decode cX1_oddsOfHouses 25 = .ok (.ishr, 1) := by decide +kernel
theorem dX1_oddsOfHouses_26 : decode cX1_oddsOfHouses 26 = .ok (.iconst 1, 1) := by decide +kernel
theorem dX1_oddsOfHouses_27 : decode cX1_oddsOfHouses 27 = .ok (.iand, 1) := by decide +kernel
theorem dX1_oddsOfHouses_28 : decode cX1_oddsOfHouses 28 = .ok (.ifCond .eq 11, 3) := by decide +kernel
theorem dX1_oddsOfHouses_31 : decode cX1_oddsOfHouses 31 = .ok (.iload_n 2, 1) := by decide +kernel
theorem dX1_oddsOfHouses_32 : decode cX1_oddsOfHouses 32 = .ok (.aload_n 0, 1) := by decide +kernel
theorem dX1_oddsOfHouses_33 : decode cX1_oddsOfHouses 33 = .ok (.iload_n 3, 1) := by decide +kernel
theorem dX1_oddsOfHouses_34 : decode cX1_oddsOfHouses 34 = .ok (.invokevirtual 87, 3) := by decide +kernel
theorem dX1_oddsOfHouses_37 : decode cX1_oddsOfHouses 37 = .ok (.iadd, 1) := by decide +kernel
theorem dX1_oddsOfHouses_38 : decode cX1_oddsOfHouses 38 = .ok (.istore_n 2, 1) := by decide +kernel
theorem dX1_oddsOfHouses_39 : decode cX1_oddsOfHouses 39 = .ok (.iinc 3 1, 3) := by decide +kernel
theorem dX1_oddsOfHouses_42 : decode cX1_oddsOfHouses 42 = .ok (.goto (-38), 3) := by decide +kernel
theorem dX1_oddsOfHouses_45 : decode cX1_oddsOfHouses 45 = .ok (.iload_n 2, 1) := by decide +kernel
theorem dX1_oddsOfHouses_46 : decode cX1_oddsOfHouses 46 = .ok (.ireturn, 1) := by decide +kernel
theorem dX1_oddsOf_0 : decode cX1_oddsOf 0 = .ok (.aload_n 0, 1) := by decide +kernel
theorem dX1_oddsOf_1 : decode cX1_oddsOf 1 = .ok (.getfield 44, 3) := by decide +kernel
theorem dX1_oddsOf_4 : decode cX1_oddsOf 4 = .ok (.iconst 2, 1) := by decide +kernel
theorem dX1_oddsOf_5 : decode cX1_oddsOf 5 = .ok (.if_icmp .ne 28, 3) := by decide +kernel
theorem dX1_oddsOf_8 : decode cX1_oddsOf 8 = .ok (.aload_n 0, 1) := by decide +kernel
theorem dX1_oddsOf_9 : decode cX1_oddsOf 9 = .ok (.getfield 9, 3) := by decide +kernel
theorem dX1_oddsOf_12 : decode cX1_oddsOf 12 = .ok (.getfield 57, 3) := by decide +kernel
theorem dX1_oddsOf_15 : decode cX1_oddsOf 15 = .ok (.ifCond .le 16, 3) := by decide +kernel
theorem dX1_oddsOf_18 : decode cX1_oddsOf 18 = .ok (.ldc 91, 2) := by decide +kernel
theorem dX1_oddsOf_20 : decode cX1_oddsOf 20 = .ok (.aload_n 0, 1) := by decide +kernel
theorem dX1_oddsOf_21 : decode cX1_oddsOf 21 = .ok (.getfield 9, 3) := by decide +kernel
theorem dX1_oddsOf_24 : decode cX1_oddsOf 24 = .ok (.getfield 57, 3) := by decide +kernel
theorem dX1_oddsOf_27 : decode cX1_oddsOf 27 = .ok (.idiv, 1) := by decide +kernel
theorem dX1_oddsOf_28 : decode cX1_oddsOf 28 = .ok (.goto 4, 3) := by decide +kernel
theorem dX1_oddsOf_31 : decode cX1_oddsOf 31 = .ok (.iconst 0, 1) := by decide +kernel
theorem dX1_oddsOf_32 : decode cX1_oddsOf 32 = .ok (.ireturn, 1) := by decide +kernel
theorem dX1_oddsOf_33 : decode cX1_oddsOf 33 = .ok (.iconst 0, 1) := by decide +kernel
theorem dX1_oddsOf_34 : decode cX1_oddsOf 34 = .ok (.istore_n 2, 1) := by decide +kernel
theorem dX1_oddsOf_35 : decode cX1_oddsOf 35 = .ok (.aload_n 0, 1) := by decide +kernel
theorem dX1_oddsOf_36 : decode cX1_oddsOf 36 = .ok (.getfield 29, 3) := by decide +kernel
theorem dX1_oddsOf_39 : decode cX1_oddsOf 39 = .ok (.iload_n 1, 1) := by decide +kernel
theorem dX1_oddsOf_40 : decode cX1_oddsOf 40 = .ok (.iaload, 1) := by decide +kernel
theorem dX1_oddsOf_41 : decode cX1_oddsOf 41 = .ok (.istore_n 3, 1) := by decide +kernel
theorem dX1_oddsOf_42 : decode cX1_oddsOf 42 = .ok (.iload_n 3, 1) := by decide +kernel
theorem dX1_oddsOf_43 : decode cX1_oddsOf 43 = .ok (.aload_n 0, 1) := by decide +kernel
theorem dX1_oddsOf_44 : decode cX1_oddsOf 44 = .ok (.getfield 32, 3) := by decide +kernel
theorem dX1_oddsOf_47 : decode cX1_oddsOf 47 = .ok (.iload_n 1, 1) := by decide +kernel
theorem dX1_oddsOf_48 : decode cX1_oddsOf 48 = .ok (.iaload, 1) := by decide +kernel
theorem dX1_oddsOf_49 : decode cX1_oddsOf 49 = .ok (.if_icmp .gt 124, 3) := by decide +kernel
theorem dX1_oddsOf_52 : decode cX1_oddsOf 52 = .ok (.ldc 91, 2) := by decide +kernel
theorem dX1_oddsOf_54 : decode cX1_oddsOf 54 = .ok (.iconst 2, 1) := by decide +kernel
theorem dX1_oddsOf_55 : decode cX1_oddsOf 55 = .ok (.aload_n 0, 1) := by decide +kernel
theorem dX1_oddsOf_56 : decode cX1_oddsOf 56 = .ok (.getfield 9, 3) := by decide +kernel
theorem dX1_oddsOf_59 : decode cX1_oddsOf 59 = .ok (.getfield 76, 3) := by decide +kernel
theorem dX1_oddsOf_62 : decode cX1_oddsOf 62 = .ok (.iload_n 1, 1) := by decide +kernel
theorem dX1_oddsOf_63 : decode cX1_oddsOf 63 = .ok (.iaload, 1) := by decide +kernel
theorem dX1_oddsOf_64 : decode cX1_oddsOf 64 = .ok (.imul, 1) := by decide +kernel
theorem dX1_oddsOf_65 : decode cX1_oddsOf 65 = .ok (.iconst 1, 1) := by decide +kernel
theorem dX1_oddsOf_66 : decode cX1_oddsOf 66 = .ok (.iadd, 1) := by decide +kernel
theorem dX1_oddsOf_67 : decode cX1_oddsOf 67 = .ok (.idiv, 1) := by decide +kernel
theorem dX1_oddsOf_68 : decode cX1_oddsOf 68 = .ok (.i2l, 1) := by decide +kernel
theorem dX1_oddsOf_69 : decode cX1_oddsOf 69 = .ok (.lstore 4, 2) := by decide +kernel
theorem dX1_oddsOf_71 : decode cX1_oddsOf 71 = .ok (.aload_n 0, 1) := by decide +kernel
theorem dX1_oddsOf_72 : decode cX1_oddsOf 72 = .ok (.iload_n 1, 1) := by decide +kernel
theorem dX1_oddsOf_73 : decode cX1_oddsOf 73 = .ok (.iload_n 3, 1) := by decide +kernel
theorem dX1_oddsOf_74 : decode cX1_oddsOf 74 = .ok (.invokevirtual 83, 3) := by decide +kernel
theorem dX1_oddsOf_77 : decode cX1_oddsOf 77 = .ok (.istore 6, 2) := by decide +kernel
theorem dX1_oddsOf_79 : decode cX1_oddsOf 79 = .ok (.iconst 0, 1) := by decide +kernel
theorem dX1_oddsOf_80 : decode cX1_oddsOf 80 = .ok (.istore 7, 2) := by decide +kernel
theorem dX1_oddsOf_82 : decode cX1_oddsOf 82 = .ok (.iload 7, 2) := by decide +kernel
theorem dX1_oddsOf_84 : decode cX1_oddsOf 84 = .ok (.aload_n 0, 1) := by decide +kernel
theorem dX1_oddsOf_85 : decode cX1_oddsOf 85 = .ok (.getfield 9, 3) := by decide +kernel
theorem dX1_oddsOf_88 : decode cX1_oddsOf 88 = .ok (.getfield 57, 3) := by decide +kernel
theorem dX1_oddsOf_91 : decode cX1_oddsOf 91 = .ok (.if_icmp .ge 53, 3) := by decide +kernel
theorem dX1_oddsOf_94 : decode cX1_oddsOf 94 = .ok (.lload 4, 2) := by decide +kernel
theorem dX1_oddsOf_96 : decode cX1_oddsOf 96 = .ok (.lconst 0, 1) := by decide +kernel
theorem dX1_oddsOf_97 : decode cX1_oddsOf 97 = .ok (.lcmp, 1) := by decide +kernel
theorem dX1_oddsOf_98 : decode cX1_oddsOf 98 = .ok (.ifCond .eq 46, 3) := by decide +kernel
theorem dX1_oddsOf_101 : decode cX1_oddsOf 101 = .ok (.iload 7, 2) := by decide +kernel
theorem dX1_oddsOf_103 : decode cX1_oddsOf 103 = .ok (.iload_n 1, 1) := by decide +kernel
theorem dX1_oddsOf_104 : decode cX1_oddsOf 104 = .ok (.if_icmp .eq 34, 3) := by decide +kernel
theorem dX1_oddsOf_107 : decode cX1_oddsOf 107 = .ok (.lload 4, 2) := by decide +kernel
theorem dX1_oddsOf_109 : decode cX1_oddsOf 109 = .ok (.aload_n 0, 1) := by decide +kernel
theorem dX1_oddsOf_110 : decode cX1_oddsOf 110 = .ok (.iload 7, 2) := by decide +kernel
theorem dX1_oddsOf_112 : decode cX1_oddsOf 112 = .ok (.iload_n 1, 1) := by decide +kernel
theorem dX1_oddsOf_113 : decode cX1_oddsOf 113 = .ok (.iload 6, 2) := by decide +kernel
theorem dX1_oddsOf_115 : decode cX1_oddsOf 115 = .ok (.invokevirtual 92, 3) := by decide +kernel
theorem dX1_oddsOf_118 : decode cX1_oddsOf 118 = .ok (.i2l, 1) := by decide +kernel
theorem dX1_oddsOf_119 : decode cX1_oddsOf 119 = .ok (.lmul, 1) := by decide +kernel
theorem dX1_oddsOf_120 : decode cX1_oddsOf 120 = .ok (.iconst 2, 1) := by decide +kernel
theorem dX1_oddsOf_121 : decode cX1_oddsOf 121 = .ok (.aload_n 0, 1) := by decide +kernel
theorem dX1_oddsOf_122 : decode cX1_oddsOf 122 = .ok (.getfield 9, 3) := by decide +kernel
theorem dX1_oddsOf_125 : decode cX1_oddsOf 125 = .ok (.getfield 76, 3) := by decide +kernel
theorem dX1_oddsOf_128 : decode cX1_oddsOf 128 = .ok (.iload 7, 2) := by decide +kernel
theorem dX1_oddsOf_130 : decode cX1_oddsOf 130 = .ok (.iaload, 1) := by decide +kernel
theorem dX1_oddsOf_131 : decode cX1_oddsOf 131 = .ok (.imul, 1) := by decide +kernel
theorem dX1_oddsOf_132 : decode cX1_oddsOf 132 = .ok (.iconst 1, 1) := by decide +kernel
theorem dX1_oddsOf_133 : decode cX1_oddsOf 133 = .ok (.iadd, 1) := by decide +kernel
theorem dX1_oddsOf_134 : decode cX1_oddsOf 134 = .ok (.i2l, 1) := by decide +kernel
theorem dX1_oddsOf_135 : decode cX1_oddsOf 135 = .ok (.ldiv, 1) := by decide +kernel
theorem dX1_oddsOf_136 : decode cX1_oddsOf 136 = .ok (.lstore 4, 2) := by decide +kernel
theorem dX1_oddsOf_138 : decode cX1_oddsOf 138 = .ok (.iinc 7 1, 3) := by decide +kernel
theorem dX1_oddsOf_141 : decode cX1_oddsOf 141 = .ok (.goto (-59), 3) := by decide +kernel
theorem dX1_oddsOf_144 : decode cX1_oddsOf 144 = .ok (.iload_n 2, 1) := by decide +kernel
theorem dX1_oddsOf_145 : decode cX1_oddsOf 145 = .ok (.lload 4, 2) := by decide +kernel
theorem dX1_oddsOf_147 : decode cX1_oddsOf 147 = .ok (.l2i, 1) := by decide +kernel
theorem dX1_oddsOf_148 : decode cX1_oddsOf 148 = .ok (.iadd, 1) := by decide +kernel
theorem dX1_oddsOf_149 : decode cX1_oddsOf 149 = .ok (.istore_n 2, 1) := by decide +kernel
theorem dX1_oddsOf_150 : decode cX1_oddsOf 150 = .ok (.lload 4, 2) := by decide +kernel
theorem dX1_oddsOf_152 : decode cX1_oddsOf 152 = .ok (.lconst 0, 1) := by decide +kernel
theorem dX1_oddsOf_153 : decode cX1_oddsOf 153 = .ok (.lcmp, 1) := by decide +kernel
theorem dX1_oddsOf_154 : decode cX1_oddsOf 154 = .ok (.ifCond .ne 13, 3) := by decide +kernel
theorem dX1_oddsOf_157 : decode cX1_oddsOf 157 = .ok (.aload_n 0, 1) := by decide +kernel
theorem dX1_oddsOf_158 : decode cX1_oddsOf 158 = .ok (.getfield 44, 3) := by decide +kernel
theorem dX1_oddsOf_161 : decode cX1_oddsOf 161 = .ok (.ifCond .ne 6, 3) := by decide +kernel
theorem dX1_oddsOf_164 : decode cX1_oddsOf 164 = .ok (.goto 9, 3) := by decide +kernel
theorem dX1_oddsOf_167 : decode cX1_oddsOf 167 = .ok (.iinc 3 1, 3) := by decide +kernel
theorem dX1_oddsOf_170 : decode cX1_oddsOf 170 = .ok (.goto (-128), 3) := by decide +kernel
theorem dX1_oddsOf_173 : decode cX1_oddsOf 173 = .ok (.iload_n 2, 1) := by decide +kernel
theorem dX1_oddsOf_174 : decode cX1_oddsOf 174 = .ok (.ireturn, 1) := by decide +kernel
theorem dX1_letting_0 : decode cX1_letting 0 = .ok (.aload_n 0, 1) := by decide +kernel
theorem dX1_letting_1 : decode cX1_letting 1 = .ok (.getfield 29, 3) := by decide +kernel
theorem dX1_letting_4 : decode cX1_letting 4 = .ok (.iload_n 1, 1) := by decide +kernel
theorem dX1_letting_5 : decode cX1_letting 5 = .ok (.iaload, 1) := by decide +kernel
theorem dX1_letting_6 : decode cX1_letting 6 = .ok (.istore 4, 2) := by decide +kernel
theorem dX1_letting_8 : decode cX1_letting 8 = .ok (.aload_n 0, 1) := by decide +kernel
theorem dX1_letting_9 : decode cX1_letting 9 = .ok (.getfield 32, 3) := by decide +kernel
theorem dX1_letting_12 : decode cX1_letting 12 = .ok (.iload_n 1, 1) := by decide +kernel
theorem dX1_letting_13 : decode cX1_letting 13 = .ok (.iaload, 1) := by decide +kernel
theorem dX1_letting_14 : decode cX1_letting 14 = .ok (.istore 5, 2) := by decide +kernel
theorem dX1_letting_16 : decode cX1_letting 16 = .ok (.aload_n 0, 1) := by decide +kernel
theorem dX1_letting_17 : decode cX1_letting 17 = .ok (.getfield 44, 3) := by decide +kernel
theorem dX1_letting_20 : decode cX1_letting 20 = .ok (.ifCond .ne 62, 3) := by decide +kernel
theorem dX1_letting_23 : decode cX1_letting 23 = .ok (.iload_n 1, 1) := by decide +kernel
theorem dX1_letting_24 : decode cX1_letting 24 = .ok (.iload_n 2, 1) := by decide +kernel
theorem dX1_letting_25 : decode cX1_letting 25 = .ok (.if_icmp .le 7, 3) := by decide +kernel
theorem dX1_letting_28 : decode cX1_letting 28 = .ok (.iload_n 3, 1) := by decide +kernel
theorem dX1_letting_29 : decode cX1_letting 29 = .ok (.goto 6, 3) := by decide +kernel
theorem dX1_letting_32 : decode cX1_letting 32 = .ok (.iload_n 3, 1) := by decide +kernel
theorem dX1_letting_33 : decode cX1_letting 33 = .ok (.iconst 1, 1) := by decide +kernel
theorem dX1_letting_34 : decode cX1_letting 34 = .ok (.iadd, 1) := by decide +kernel
theorem dX1_letting_35 : decode cX1_letting 35 = .ok (.istore 6, 2) := by decide +kernel
theorem dX1_letting_37 : decode cX1_letting 37 = .ok (.iload 6, 2) := by decide +kernel
theorem dX1_letting_39 : decode cX1_letting 39 = .ok (.aload_n 0, 1) := by decide +kernel
theorem dX1_letting_40 : decode cX1_letting 40 = .ok (.getfield 35, 3) := by decide +kernel
theorem dX1_letting_43 : decode cX1_letting 43 = .ok (.iload_n 1, 1) := by decide +kernel
theorem dX1_letting_44 : decode cX1_letting 44 = .ok (.iaload, 1) := by decide +kernel
theorem dX1_letting_45 : decode cX1_letting 45 = .ok (.if_icmp .gt 10, 3) := by decide +kernel
theorem dX1_letting_48 : decode cX1_letting 48 = .ok (.iload 6, 2) := by decide +kernel
theorem dX1_letting_50 : decode cX1_letting 50 = .ok (.iload 5, 2) := by decide +kernel
theorem dX1_letting_52 : decode cX1_letting 52 = .ok (.if_icmp .le 5, 3) := by decide +kernel
theorem dX1_letting_55 : decode cX1_letting 55 = .ok (.iconst 0, 1) := by decide +kernel
theorem dX1_letting_56 : decode cX1_letting 56 = .ok (.ireturn, 1) := by decide +kernel
theorem dX1_letting_57 : decode cX1_letting 57 = .ok (.iload 6, 2) := by decide +kernel
theorem dX1_letting_59 : decode cX1_letting 59 = .ok (.iload 4, 2) := by decide +kernel
theorem dX1_letting_61 : decode cX1_letting 61 = .ok (.if_icmp .le 13, 3) := by decide +kernel
theorem dX1_letting_64 : decode cX1_letting 64 = .ok (.iload 5, 2) := by decide +kernel
theorem dX1_letting_66 : decode cX1_letting 66 = .ok (.iload 6, 2) := by decide +kernel
theorem dX1_letting_68 : decode cX1_letting 68 = .ok (.isub, 1) := by decide +kernel
theorem dX1_letting_69 : decode cX1_letting 69 = .ok (.iconst 1, 1) := by decide +kernel
theorem dX1_letting_70 : decode cX1_letting 70 = .ok (.iadd, 1) := by decide +kernel
theorem dX1_letting_71 : decode cX1_letting 71 = .ok (.goto 10, 3) := by decide +kernel
theorem dX1_letting_74 : decode cX1_letting 74 = .ok (.iload 5, 2) := by decide +kernel
theorem dX1_letting_76 : decode cX1_letting 76 = .ok (.iload 4, 2) := by decide +kernel
theorem dX1_letting_78 : decode cX1_letting 78 = .ok (.isub, 1) := by decide +kernel
theorem dX1_letting_79 : decode cX1_letting 79 = .ok (.iconst 1, 1) := by decide +kernel
theorem dX1_letting_80 : decode cX1_letting 80 = .ok (.iadd, 1) := by decide +kernel
theorem dX1_letting_81 : decode cX1_letting 81 = .ok (.ireturn, 1) := by decide +kernel
theorem dX1_letting_82 : decode cX1_letting 82 = .ok (.iload_n 1, 1) := by decide +kernel
theorem dX1_letting_83 : decode cX1_letting 83 = .ok (.iload_n 2, 1) := by decide +kernel
theorem dX1_letting_84 : decode cX1_letting 84 = .ok (.if_icmp .le 7, 3) := by decide +kernel
theorem dX1_letting_87 : decode cX1_letting 87 = .ok (.iload_n 3, 1) := by decide +kernel
theorem dX1_letting_88 : decode cX1_letting 88 = .ok (.goto 6, 3) := by decide +kernel
theorem dX1_letting_91 : decode cX1_letting 91 = .ok (.iload_n 3, 1) := by decide +kernel
theorem dX1_letting_92 : decode cX1_letting 92 = .ok (.iconst 1, 1) := by decide +kernel
theorem dX1_letting_93 : decode cX1_letting 93 = .ok (.isub, 1) := by decide +kernel
theorem dX1_letting_94 : decode cX1_letting 94 = .ok (.istore 6, 2) := by decide +kernel
theorem dX1_letting_96 : decode cX1_letting 96 = .ok (.iload 6, 2) := by decide +kernel
theorem dX1_letting_98 : decode cX1_letting 98 = .ok (.aload_n 0, 1) := by decide +kernel
theorem dX1_letting_99 : decode cX1_letting 99 = .ok (.getfield 35, 3) := by decide +kernel
theorem dX1_letting_102 : decode cX1_letting 102 = .ok (.iload_n 1, 1) := by decide +kernel
theorem dX1_letting_103 : decode cX1_letting 103 = .ok (.iaload, 1) := by decide +kernel
theorem dX1_letting_104 : decode cX1_letting 104 = .ok (.if_icmp .ge 10, 3) := by decide +kernel
theorem dX1_letting_107 : decode cX1_letting 107 = .ok (.iload 6, 2) := by decide +kernel
theorem dX1_letting_109 : decode cX1_letting 109 = .ok (.iload 5, 2) := by decide +kernel
theorem dX1_letting_111 : decode cX1_letting 111 = .ok (.if_icmp .lt 11, 3) := by decide +kernel
theorem dX1_letting_114 : decode cX1_letting 114 = .ok (.iload 5, 2) := by decide +kernel
theorem dX1_letting_116 : decode cX1_letting 116 = .ok (.iload 4, 2) := by decide +kernel
theorem dX1_letting_118 : decode cX1_letting 118 = .ok (.isub, 1) := by decide +kernel
theorem dX1_letting_119 : decode cX1_letting 119 = .ok (.iconst 1, 1) := by decide +kernel
theorem dX1_letting_120 : decode cX1_letting 120 = .ok (.iadd, 1) := by decide +kernel
theorem dX1_letting_121 : decode cX1_letting 121 = .ok (.ireturn, 1) := by decide +kernel
theorem dX1_letting_122 : decode cX1_letting 122 = .ok (.iload 6, 2) := by decide +kernel
theorem dX1_letting_124 : decode cX1_letting 124 = .ok (.iload 4, 2) := by decide +kernel
theorem dX1_letting_126 : decode cX1_letting 126 = .ok (.if_icmp .ge 7, 3) := by decide +kernel
theorem dX1_letting_129 : decode cX1_letting 129 = .ok (.iconst 0, 1) := by decide +kernel
theorem dX1_letting_130 : decode cX1_letting 130 = .ok (.goto 10, 3) := by decide +kernel
theorem dX1_letting_133 : decode cX1_letting 133 = .ok (.iload 6, 2) := by decide +kernel
theorem dX1_letting_135 : decode cX1_letting 135 = .ok (.iload 4, 2) := by decide +kernel
theorem dX1_letting_137 : decode cX1_letting 137 = .ok (.isub, 1) := by decide +kernel
theorem dX1_letting_138 : decode cX1_letting 138 = .ok (.iconst 1, 1) := by decide +kernel
theorem dX1_letting_139 : decode cX1_letting 139 = .ok (.iadd, 1) := by decide +kernel
theorem dX1_letting_140 : decode cX1_letting 140 = .ok (.ireturn, 1) := by decide +kernel
theorem dX1_mayRuleAt_0 : decode cX1_mayRuleAt 0 = .ok (.iload_n 2, 1) := by decide +kernel
theorem dX1_mayRuleAt_1 : decode cX1_mayRuleAt 1 = .ok (.aload_n 0, 1) := by decide +kernel
theorem dX1_mayRuleAt_2 : decode cX1_mayRuleAt 2 = .ok (.iload_n 1, 1) := by decide +kernel
theorem dX1_mayRuleAt_3 : decode cX1_mayRuleAt 3 = .ok (.invokevirtual 96, 3) := by decide +kernel
theorem dX1_mayRuleAt_6 : decode cX1_mayRuleAt 6 = .ok (.if_icmp .lt 12, 3) := by decide +kernel
theorem dX1_mayRuleAt_9 : decode cX1_mayRuleAt 9 = .ok (.iload_n 2, 1) := by decide +kernel
theorem dX1_mayRuleAt_10 : decode cX1_mayRuleAt 10 = .ok (.aload_n 0, 1) := by decide +kernel
theorem dX1_mayRuleAt_11 : decode cX1_mayRuleAt 11 = .ok (.iload_n 1, 1) := by decide +kernel
theorem dX1_mayRuleAt_12 : decode cX1_mayRuleAt 12 = .ok (.invokevirtual 99, 3) := by decide +kernel
theorem dX1_mayRuleAt_15 : decode cX1_mayRuleAt 15 = .ok (.if_icmp .le 5, 3) := by decide +kernel
theorem dX1_mayRuleAt_18 : decode cX1_mayRuleAt 18 = .ok (.iconst 0, 1) := by decide +kernel
theorem dX1_mayRuleAt_19 : decode cX1_mayRuleAt 19 = .ok (.ireturn, 1) := by decide +kernel
theorem dX1_mayRuleAt_20 : decode cX1_mayRuleAt 20 = .ok (.iconst 0, 1) := by decide +kernel
theorem dX1_mayRuleAt_21 : decode cX1_mayRuleAt 21 = .ok (.istore_n 3, 1) := by decide +kernel
theorem dX1_mayRuleAt_22 : decode cX1_mayRuleAt 22 = .ok (.iload_n 3, 1) := by decide +kernel
theorem dX1_mayRuleAt_23 : decode cX1_mayRuleAt 23 = .ok (.aload_n 0, 1) := by decide +kernel
theorem dX1_mayRuleAt_24 : decode cX1_mayRuleAt 24 = .ok (.getfield 9, 3) := by decide +kernel
theorem dX1_mayRuleAt_27 : decode cX1_mayRuleAt 27 = .ok (.getfield 57, 3) := by decide +kernel
theorem dX1_mayRuleAt_30 : decode cX1_mayRuleAt 30 = .ok (.if_icmp .ge 26, 3) := by decide +kernel
theorem dX1_mayRuleAt_33 : decode cX1_mayRuleAt 33 = .ok (.iload_n 3, 1) := by decide +kernel
theorem dX1_mayRuleAt_34 : decode cX1_mayRuleAt 34 = .ok (.iload_n 1, 1) := by decide +kernel
theorem dX1_mayRuleAt_35 : decode cX1_mayRuleAt 35 = .ok (.if_icmp .eq 15, 3) := by decide +kernel
theorem dX1_mayRuleAt_38 : decode cX1_mayRuleAt 38 = .ok (.aload_n 0, 1) := by decide +kernel
theorem dX1_mayRuleAt_39 : decode cX1_mayRuleAt 39 = .ok (.iload_n 3, 1) := by decide +kernel
theorem dX1_mayRuleAt_40 : decode cX1_mayRuleAt 40 = .ok (.iload_n 1, 1) := by decide +kernel
theorem dX1_mayRuleAt_41 : decode cX1_mayRuleAt 41 = .ok (.iload_n 2, 1) := by decide +kernel
theorem dX1_mayRuleAt_42 : decode cX1_mayRuleAt 42 = .ok (.invokevirtual 92, 3) := by decide +kernel
theorem dX1_mayRuleAt_45 : decode cX1_mayRuleAt 45 = .ok (.ifCond .ne 5, 3) := by decide +kernel
theorem dX1_mayRuleAt_48 : decode cX1_mayRuleAt 48 = .ok (.iconst 0, 1) := by decide +kernel
theorem dX1_mayRuleAt_49 : decode cX1_mayRuleAt 49 = .ok (.ireturn, 1) := by decide +kernel
theorem dX1_mayRuleAt_50 : decode cX1_mayRuleAt 50 = .ok (.iinc 3 1, 3) := by decide +kernel
theorem dX1_mayRuleAt_53 : decode cX1_mayRuleAt 53 = .ok (.goto (-31), 3) := by decide +kernel
theorem dX1_mayRuleAt_56 : decode cX1_mayRuleAt 56 = .ok (.iconst 1, 1) := by decide +kernel
theorem dX1_mayRuleAt_57 : decode cX1_mayRuleAt 57 = .ok (.ireturn, 1) := by decide +kernel
theorem dX2_init_0 : decode cX2_init 0 = .ok (.aload_n 0, 1) := by decide +kernel
theorem dX2_init_1 : decode cX2_init 1 = .ok (.invokespecial 3, 3) := by decide +kernel
theorem dX2_init_4 : decode cX2_init 4 = .ok (.aload_n 0, 1) := by decide +kernel
theorem dX2_init_5 : decode cX2_init 5 = .ok (.aload_n 1, 1) := by decide +kernel
theorem dX2_init_6 : decode cX2_init 6 = .ok (.putfield 9, 3) := by decide +kernel
theorem dX2_init_9 : decode cX2_init 9 = .ok (.aload_n 0, 1) := by decide +kernel
theorem dX2_init_10 : decode cX2_init 10 = .ok (.new 15, 3) := by decide +kernel
theorem dX2_init_13 : decode cX2_init 13 = .ok (.dup, 1) := by decide +kernel
theorem dX2_init_14 : decode cX2_init 14 = .ok (.aload_n 1, 1) := by decide +kernel
theorem dX2_init_15 : decode cX2_init 15 = .ok (.invokespecial 17, 3) := by decide +kernel
theorem dX2_init_18 : decode cX2_init 18 = .ok (.putfield 20, 3) := by decide +kernel
theorem dX2_init_21 : decode cX2_init 21 = .ok (.aload_n 0, 1) := by decide +kernel
theorem dX2_init_22 : decode cX2_init 22 = .ok (.new 15, 3) := by decide +kernel
theorem dX2_init_25 : decode cX2_init 25 = .ok (.dup, 1) := by decide +kernel
theorem dX2_init_26 : decode cX2_init 26 = .ok (.aload_n 1, 1) := by decide +kernel
theorem dX2_init_27 : decode cX2_init 27 = .ok (.invokespecial 17, 3) := by decide +kernel
theorem dX2_init_30 : decode cX2_init 30 = .ok (.putfield 24, 3) := by decide +kernel
theorem dX2_init_33 : decode cX2_init 33 = .ok (.aload_n 0, 1) := by decide +kernel
theorem dX2_init_34 : decode cX2_init 34 = .ok (.bipush 20, 2) := by decide +kernel
theorem dX2_init_36 : decode cX2_init 36 = .ok (.newarray .int, 2) := by decide +kernel
theorem dX2_init_38 : decode cX2_init 38 = .ok (.putfield 27, 3) := by decide +kernel
theorem dX2_init_41 : decode cX2_init 41 = .ok (.return_, 1) := by decide +kernel
theorem dX2_seekShift_0 : decode cX2_seekShift 0 = .ok (.aload_n 0, 1) := by decide +kernel
theorem dX2_seekShift_1 : decode cX2_seekShift 1 = .ok (.getfield 24, 3) := by decide +kernel
theorem dX2_seekShift_4 : decode cX2_seekShift 4 = .ok (.aload_n 1, 1) := by decide +kernel
theorem dX2_seekShift_5 : decode cX2_seekShift 5 = .ok (.invokevirtual 31, 3) := by decide +kernel
theorem dX2_seekShift_8 : decode cX2_seekShift 8 = .ok (.lconst 0, 1) := by decide +kernel
theorem dX2_seekShift_9 : decode cX2_seekShift 9 = .ok (.lstore_n 3, 1) := by decide +kernel
theorem dX2_seekShift_10 : decode cX2_seekShift 10 = .ok (.iconst 0, 1) := by decide +kernel
theorem dX2_seekShift_11 : decode cX2_seekShift 11 = .ok (.istore 5, 2) := by decide +kernel
theorem dX2_seekShift_13 : decode cX2_seekShift 13 = .ok (.iload 5, 2) := by decide +kernel
theorem dX2_seekShift_15 : decode cX2_seekShift 15 = .ok (.aload_n 0, 1) := by decide +kernel
theorem dX2_seekShift_16 : decode cX2_seekShift 16 = .ok (.getfield 9, 3) := by decide +kernel
theorem dX2_seekShift_19 : decode cX2_seekShift 19 = .ok (.getfield 35, 3) := by decide +kernel
theorem dX2_seekShift_22 : decode cX2_seekShift 22 = .ok (.iload_n 2, 1) := by decide +kernel
theorem dX2_seekShift_23 : decode cX2_seekShift 23 = .ok (.iaload, 1) := by decide +kernel
theorem dX2_seekShift_24 : decode cX2_seekShift 24 = .ok (.if_icmp .gt 83, 3) := by decide +kernel
theorem dX2_seekShift_27 : decode cX2_seekShift 27 = .ok (.aload_n 0, 1) := by decide +kernel
theorem dX2_seekShift_28 : decode cX2_seekShift 28 = .ok (.getfield 24, 3) := by decide +kernel
theorem dX2_seekShift_31 : decode cX2_seekShift 31 = .ok (.iload_n 2, 1) := by decide +kernel
theorem dX2_seekShift_32 : decode cX2_seekShift 32 = .ok (.iload 5, 2) := by decide +kernel
theorem dX2_seekShift_34 : decode cX2_seekShift 34 = .ok (.invokevirtual 40, 3) := by decide +kernel
theorem dX2_seekShift_37 : decode cX2_seekShift 37 = .ok (.pop, 1) := by decide +kernel
theorem dX2_seekShift_38 : decode cX2_seekShift 38 = .ok (.aload_n 0, 1) := by decide +kernel
theorem dX2_seekShift_39 : decode cX2_seekShift 39 = .ok (.getfield 24, 3) := by decide +kernel
theorem dX2_seekShift_42 : decode cX2_seekShift 42 = .ok (.iconst 1, 1) := by decide +kernel
theorem dX2_seekShift_43 : decode cX2_seekShift 43 = .ok (.iload_n 2, 1) := by decide +kernel
theorem dX2_seekShift_44 : decode cX2_seekShift 44 = .ok (.ishl, 1) := by decide +kernel
theorem dX2_seekShift_45 : decode cX2_seekShift 45 = .ok (.invokevirtual 44, 3) := by decide +kernel
theorem dX2_seekShift_48 : decode cX2_seekShift 48 = .ok (.istore 6, 2) := by decide +kernel
theorem dX2_seekShift_50 : decode cX2_seekShift 50 = .ok (.iload 6, 2) := by decide +kernel
theorem dX2_seekShift_52 : decode cX2_seekShift 52 = .ok (.i2l, 1) := by decide +kernel
theorem dX2_seekShift_53 : decode cX2_seekShift 53 = .ok (.aload_n 0, 1) := by decide +kernel
theorem dX2_seekShift_54 : decode cX2_seekShift 54 = .ok (.getfield 9, 3) := by decide +kernel
theorem dX2_seekShift_57 : decode cX2_seekShift 57 = .ok (.getfield 48, 3) := by decide +kernel
theorem dX2_seekShift_60 : decode cX2_seekShift 60 = .ok (.iload_n 2, 1) := by decide +kernel
theorem dX2_seekShift_61 : decode cX2_seekShift 61 = .ok (.iaload, 1) := by decide +kernel
theorem dX2_seekShift_62 : decode cX2_seekShift 62 = .ok (.i2l, 1) := by decide +kernel
theorem dX2_seekShift_63 : decode cX2_seekShift 63 = .ok (.lmul, 1) := by decide +kernel
theorem dX2_seekShift_64 : decode cX2_seekShift 64 = .ok (.ldc2_w 51, 3) := by decide +kernel
theorem dX2_seekShift_67 : decode cX2_seekShift 67 = .ok (.ldiv, 1) := by decide +kernel
theorem dX2_seekShift_68 : decode cX2_seekShift 68 = .ok (.iload 5, 2) := by decide +kernel
theorem dX2_seekShift_70 : decode cX2_seekShift 70 = .ok (.i2l, 1) := by decide +kernel
theorem dX2_seekShift_71 : decode cX2_seekShift 71 = .ok (.lsub, 1) := by decide +kernel
theorem dX2_seekShift_72 : decode cX2_seekShift 72 = .ok (.lstore 7, 2) := by decide +kernel
theorem dX2_seekShift_74 : decode cX2_seekShift 74 = .ok (.iload 5, 2) := by decide +kernel
theorem dX2_seekShift_76 : decode cX2_seekShift 76 = .ok (.ifCond .eq 10, 3) := by decide +kernel
theorem dX2_seekShift_79 : decode cX2_seekShift 79 = .ok (.lload 7, 2) := by decide +kernel
theorem dX2_seekShift_81 : decode cX2_seekShift 81 = .ok (.lload_n 3, 1) := by decide +kernel
theorem dX2_seekShift_82 : decode cX2_seekShift 82 = .ok (.lcmp, 1) := by decide +kernel
theorem dX2_seekShift_83 : decode cX2_seekShift 83 = .ok (.ifCond .le 18, 3) := by decide +kernel
theorem dX2_seekShift_86 : decode cX2_seekShift 86 = .ok (.lload 7, 2) := by decide +kernel
theorem dX2_seekShift_88 : decode cX2_seekShift 88 = .ok (.lstore_n 3, 1) := by decide +kernel
theorem dX2_seekShift_89 : decode cX2_seekShift 89 = .ok (.aload_n 0, 1) := by decide +kernel
theorem dX2_seekShift_90 : decode cX2_seekShift 90 = .ok (.iload 5, 2) := by decide +kernel
theorem dX2_seekShift_92 : decode cX2_seekShift 92 = .ok (.putfield 53, 3) := by decide +kernel
theorem dX2_seekShift_95 : decode cX2_seekShift 95 = .ok (.aload_n 0, 1) := by decide +kernel
theorem dX2_seekShift_96 : decode cX2_seekShift 96 = .ok (.iload 6, 2) := by decide +kernel
theorem dX2_seekShift_98 : decode cX2_seekShift 98 = .ok (.putfield 57, 3) := by decide +kernel
theorem dX2_seekShift_101 : decode cX2_seekShift 101 = .ok (.iinc 5 10, 3) := by decide +kernel
theorem dX2_seekShift_104 : decode cX2_seekShift 104 = .ok (.goto (-91), 3) := by decide +kernel
theorem dX2_seekShift_107 : decode cX2_seekShift 107 = .ok (.return_, 1) := by decide +kernel
theorem dX2_seekNoise_0 : decode cX2_seekNoise 0 = .ok (.aload_n 0, 1) := by decide +kernel
theorem dX2_seekNoise_1 : decode cX2_seekNoise 1 = .ok (.getfield 24, 3) := by decide +kernel
theorem dX2_seekNoise_4 : decode cX2_seekNoise 4 = .ok (.aload_n 1, 1) := by decide +kernel
theorem dX2_seekNoise_5 : decode cX2_seekNoise 5 = .ok (.invokevirtual 31, 3) := by decide +kernel
theorem dX2_seekNoise_8 : decode cX2_seekNoise 8 = .ok (.iconst 0, 1) := by decide +kernel
theorem dX2_seekNoise_9 : decode cX2_seekNoise 9 = .ok (.istore_n 3, 1) := by decide +kernel
theorem dX2_seekNoise_10 : decode cX2_seekNoise 10 = .ok (.iload_n 3, 1) := by decide +kernel
theorem dX2_seekNoise_11 : decode cX2_seekNoise 11 = .ok (.bipush 9, 2) := by decide +kernel
theorem dX2_seekNoise_13 : decode cX2_seekNoise 13 = .ok (.if_icmp .gt 56, 3) := by decide +kernel
theorem dX2_seekNoise_16 : decode cX2_seekNoise 16 = .ok (.aload_n 0, 1) := by decide +kernel
theorem dX2_seekNoise_17 : decode cX2_seekNoise 17 = .ok (.getfield 24, 3) := by decide +kernel
theorem dX2_seekNoise_20 : decode cX2_seekNoise 20 = .ok (.iload_n 2, 1) := by decide +kernel
theorem dX2_seekNoise_21 : decode cX2_seekNoise 21 = .ok (.bipush 60, 2) := by decide +kernel
theorem dX2_seekNoise_23 : decode cX2_seekNoise 23 = .ok (.iload_n 3, 1) := by decide +kernel
theorem dX2_seekNoise_24 : decode cX2_seekNoise 24 = .ok (.invokevirtual 60, 3) := by decide +kernel
theorem dX2_seekNoise_27 : decode cX2_seekNoise 27 = .ok (.aload_n 0, 1) := by decide +kernel
theorem dX2_seekNoise_28 : decode cX2_seekNoise 28 = .ok (.getfield 24, 3) := by decide +kernel
theorem dX2_seekNoise_31 : decode cX2_seekNoise 31 = .ok (.iconst 1, 1) := by decide +kernel
theorem dX2_seekNoise_32 : decode cX2_seekNoise 32 = .ok (.iload_n 2, 1) := by decide +kernel
theorem dX2_seekNoise_33 : decode cX2_seekNoise 33 = .ok (.ishl, 1) := by decide +kernel
theorem dX2_seekNoise_34 : decode cX2_seekNoise 34 = .ok (.invokevirtual 44, 3) := by decide +kernel
theorem dX2_seekNoise_37 : decode cX2_seekNoise 37 = .ok (.istore 4, 2) := by decide +kernel
theorem dX2_seekNoise_39 : decode cX2_seekNoise 39 = .ok (.iload_n 3, 1) := by decide +kernel
theorem dX2_seekNoise_40 : decode cX2_seekNoise 40 = .ok (.ifCond .eq 12, 3) := by decide +kernel
theorem dX2_seekNoise_43 : decode cX2_seekNoise 43 = .ok (.iload 4, 2) := by decide +kernel
theorem dX2_seekNoise_45 : decode cX2_seekNoise 45 = .ok (.aload_n 0, 1) := by decide +kernel
theorem dX2_seekNoise_46 : decode cX2_seekNoise 46 = .ok (.getfield 57, 3) := by decide +kernel
theorem dX2_seekNoise_49 : decode cX2_seekNoise 49 = .ok (.if_icmp .le 14, 3) := by decide +kernel
theorem dX2_seekNoise_52 : decode cX2_seekNoise 52 = .ok (.aload_n 0, 1) := by decide +kernel
theorem dX2_seekNoise_53 : decode cX2_seekNoise 53 = .ok (.iload_n 3, 1) := by decide +kernel
theorem dX2_seekNoise_54 : decode cX2_seekNoise 54 = .ok (.putfield 64, 3) := by decide +kernel
theorem dX2_seekNoise_57 : decode cX2_seekNoise 57 = .ok (.aload_n 0, 1) := by decide +kernel
theorem dX2_seekNoise_58 : decode cX2_seekNoise 58 = .ok (.iload 4, 2) := by decide +kernel
theorem dX2_seekNoise_60 : decode cX2_seekNoise 60 = .ok (.putfield 57, 3) := by decide +kernel
theorem dX2_seekNoise_63 : decode cX2_seekNoise 63 = .ok (.iinc 3 1, 3) := by decide +kernel
theorem dX2_seekNoise_66 : decode cX2_seekNoise 66 = .ok (.goto (-56), 3) := by decide +kernel
theorem dX2_seekNoise_69 : decode cX2_seekNoise 69 = .ok (.return_, 1) := by decide +kernel
theorem dX2_settle_0 : decode cX2_settle 0 = .ok (.aload_n 0, 1) := by decide +kernel
theorem dX2_settle_1 : decode cX2_settle 1 = .ok (.getfield 20, 3) := by decide +kernel
theorem dX2_settle_4 : decode cX2_settle 4 = .ok (.aload_n 1, 1) := by decide +kernel
theorem dX2_settle_5 : decode cX2_settle 5 = .ok (.invokevirtual 31, 3) := by decide +kernel
theorem dX2_settle_8 : decode cX2_settle 8 = .ok (.iconst 0, 1) := by decide +kernel
theorem dX2_settle_9 : decode cX2_settle 9 = .ok (.istore_n 2, 1) := by decide +kernel
theorem dX2_settle_10 : decode cX2_settle 10 = .ok (.iload_n 2, 1) := by decide +kernel
theorem dX2_settle_11 : decode cX2_settle 11 = .ok (.bipush 20, 2) := by decide +kernel
theorem dX2_settle_13 : decode cX2_settle 13 = .ok (.if_icmp .ge 38, 3) := by decide +kernel
theorem dX2_settle_16 : decode cX2_settle 16 = .ok (.aload_n 0, 1) := by decide +kernel
theorem dX2_settle_17 : decode cX2_settle 17 = .ok (.invokevirtual 67, 3) := by decide +kernel
theorem dX2_settle_20 : decode cX2_settle 20 = .ok (.ifCond .ne 5, 3) := by decide +kernel
theorem dX2_settle_23 : decode cX2_settle 23 = .ok (.iload_n 2, 1) := by decide +kernel
theorem dX2_settle_24 : decode cX2_settle 24 = .ok (.ireturn, 1) := by decide +kernel
theorem dX2_settle_25 : decode cX2_settle 25 = .ok (.aload_n 0, 1) := by decide +kernel
theorem dX2_settle_26 : decode cX2_settle 26 = .ok (.getfield 27, 3) := by decide +kernel
theorem dX2_settle_29 : decode cX2_settle 29 = .ok (.iload_n 2, 1) := by decide +kernel
theorem dX2_settle_30 : decode cX2_settle 30 = .ok (.aload_n 0, 1) := by decide +kernel
theorem dX2_settle_31 : decode cX2_settle 31 = .ok (.invokevirtual 71, 3) := by decide +kernel
theorem dX2_settle_34 : decode cX2_settle 34 = .ok (.iastore, 1) := by decide +kernel
theorem dX2_settle_35 : decode cX2_settle 35 = .ok (.aload_n 0, 1) := by decide +kernel
theorem dX2_settle_36 : decode cX2_settle 36 = .ok (.iload_n 2, 1) := by decide +kernel
theorem dX2_settle_37 : decode cX2_settle 37 = .ok (.invokevirtual 75, 3) := by decide +kernel
theorem dX2_settle_40 : decode cX2_settle 40 = .ok (.ifCond .eq 5, 3) := by decide +kernel
theorem dX2_settle_43 : decode cX2_settle 43 = .ok (.iconst (-1), 1) := by decide +kernel
theorem dX2_settle_44 : decode cX2_settle 44 = .ok (.ireturn, 1) := by decide +kernel
theorem dX2_settle_45 : decode cX2_settle 45 = .ok (.iinc 2 1, 3) := by decide +kernel
theorem dX2_settle_48 : decode cX2_settle 48 = .ok (.goto (-38), 3) := by decide +kernel
theorem dX2_settle_51 : decode cX2_settle 51 = .ok (.iconst (-1), 1) := by decide +kernel
theorem dX2_settle_52 : decode cX2_settle 52 = .ok (.ireturn, 1) := by decide +kernel
theorem dX2_playRound_0 : decode cX2_playRound 0 = .ok (.iconst 0, 1) := by decide +kernel
theorem dX2_playRound_1 : decode cX2_playRound 1 = .ok (.istore_n 1, 1) := by decide +kernel
theorem dX2_playRound_2 : decode cX2_playRound 2 = .ok (.iconst 0, 1) := by decide +kernel
theorem dX2_playRound_3 : decode cX2_playRound 3 = .ok (.istore_n 2, 1) := by decide +kernel
theorem dX2_playRound_4 : decode cX2_playRound 4 = .ok (.iload_n 2, 1) := by decide +kernel
theorem dX2_playRound_5 : decode cX2_playRound 5 = .ok (.aload_n 0, 1) := by decide +kernel
theorem dX2_playRound_6 : decode cX2_playRound 6 = .ok (.getfield 9, 3) := by decide +kernel
theorem dX2_playRound_9 : decode cX2_playRound 9 = .ok (.getfield 79, 3) := by decide +kernel
theorem dX2_playRound_12 : decode cX2_playRound 12 = .ok (.if_icmp .ge 44, 3) := by decide +kernel
theorem dX2_playRound_15 : decode cX2_playRound 15 = .ok (.aload_n 0, 1) := by decide +kernel
theorem dX2_playRound_16 : decode cX2_playRound 16 = .ok (.getfield 9, 3) := by decide +kernel
theorem dX2_playRound_19 : decode cX2_playRound 19 = .ok (.iload_n 2, 1) := by decide +kernel
theorem dX2_playRound_20 : decode cX2_playRound 20 = .ok (.invokevirtual 82, 3) := by decide +kernel
theorem dX2_playRound_23 : decode cX2_playRound 23 = .ok (.ifCond .eq 27, 3) := by decide +kernel
theorem dX2_playRound_26 : decode cX2_playRound 26 = .ok (.aload_n 0, 1) := by decide +kernel
theorem dX2_playRound_27 : decode cX2_playRound 27 = .ok (.aload_n 0, 1) := by decide +kernel
theorem dX2_playRound_28 : decode cX2_playRound 28 = .ok (.getfield 20, 3) := by decide +kernel
theorem dX2_playRound_31 : decode cX2_playRound 31 = .ok (.iload_n 2, 1) := by decide +kernel
theorem dX2_playRound_32 : decode cX2_playRound 32 = .ok (.invokevirtual 85, 3) := by decide +kernel
theorem dX2_playRound_35 : decode cX2_playRound 35 = .ok (.iload_n 1, 1) := by decide +kernel
theorem dX2_playRound_36 : decode cX2_playRound 36 = .ok (.aload_n 0, 1) := by decide +kernel
theorem dX2_playRound_37 : decode cX2_playRound 37 = .ok (.getfield 20, 3) := by decide +kernel
theorem dX2_playRound_40 : decode cX2_playRound 40 = .ok (.iload_n 2, 1) := by decide +kernel
theorem dX2_playRound_41 : decode cX2_playRound 41 = .ok (.aload_n 0, 1) := by decide +kernel
theorem dX2_playRound_42 : decode cX2_playRound 42 = .ok (.getfield 53, 3) := by decide +kernel
theorem dX2_playRound_45 : decode cX2_playRound 45 = .ok (.invokevirtual 40, 3) := by decide +kernel
theorem dX2_playRound_48 : decode cX2_playRound 48 = .ok (.ior, 1) := by decide +kernel
theorem dX2_playRound_49 : decode cX2_playRound 49 = .ok (.istore_n 1, 1) := by decide +kernel
theorem dX2_playRound_50 : decode cX2_playRound 50 = .ok (.iinc 2 1, 3) := by decide +kernel
theorem dX2_playRound_53 : decode cX2_playRound 53 = .ok (.goto (-49), 3) := by decide +kernel
theorem dX2_playRound_56 : decode cX2_playRound 56 = .ok (.iload_n 1, 1) := by decide +kernel
theorem dX2_playRound_57 : decode cX2_playRound 57 = .ok (.ireturn, 1) := by decide +kernel
theorem dX2_codeOfPlan_0 : decode cX2_codeOfPlan 0 = .ok (.iconst 0, 1) := by decide +kernel
theorem dX2_codeOfPlan_1 : decode cX2_codeOfPlan 1 = .ok (.istore_n 1, 1) := by decide +kernel
theorem dX2_codeOfPlan_2 : decode cX2_codeOfPlan 2 = .ok (.iconst 0, 1) := by decide +kernel
theorem dX2_codeOfPlan_3 : decode cX2_codeOfPlan 3 = .ok (.istore_n 2, 1) := by decide +kernel
theorem dX2_codeOfPlan_4 : decode cX2_codeOfPlan 4 = .ok (.iload_n 2, 1) := by decide +kernel
theorem dX2_codeOfPlan_5 : decode cX2_codeOfPlan 5 = .ok (.aload_n 0, 1) := by decide +kernel
theorem dX2_codeOfPlan_6 : decode cX2_codeOfPlan 6 = .ok (.getfield 9, 3) := by decide +kernel
theorem dX2_codeOfPlan_9 : decode cX2_codeOfPlan 9 = .ok (.getfield 89, 3) := by decide +kernel
theorem dX2_codeOfPlan_12 : decode cX2_codeOfPlan 12 = .ok (.if_icmp .ge 27, 3) := by decide +kernel
theorem dX2_codeOfPlan_15 : decode cX2_codeOfPlan 15 = .ok (.iload_n 1, 1) := by decide +kernel
theorem dX2_codeOfPlan_16 : decode cX2_codeOfPlan 16 = .ok (.bipush 7, 2) := by decide +kernel
theorem dX2_codeOfPlan_18 : decode cX2_codeOfPlan 18 = .ok (.imul, 1) := by decide +kernel
theorem dX2_codeOfPlan_19 : decode cX2_codeOfPlan 19 = .ok (.aload_n 0, 1) := by decide +kernel
theorem dX2_codeOfPlan_20 : decode cX2_codeOfPlan 20 = .ok (.getfield 20, 3) := by decide +kernel
theorem dX2_codeOfPlan_23 : decode cX2_codeOfPlan 23 = .ok (.getfield 92, 3) := by decide +kernel
theorem dX2_codeOfPlan_26 : decode cX2_codeOfPlan 26 = .ok (.iload_n 2, 1) := by decide +kernel
theorem dX2_codeOfPlan_27 : decode cX2_codeOfPlan 27 = .ok (.iaload, 1) := by decide +kernel
theorem dX2_codeOfPlan_28 : decode cX2_codeOfPlan 28 = .ok (.bipush 10, 2) := by decide +kernel
theorem dX2_codeOfPlan_30 : decode cX2_codeOfPlan 30 = .ok (.idiv, 1) := by decide +kernel
theorem dX2_codeOfPlan_31 : decode cX2_codeOfPlan 31 = .ok (.iadd, 1) := by decide +kernel
theorem dX2_codeOfPlan_32 : decode cX2_codeOfPlan 32 = .ok (.istore_n 1, 1) := by decide +kernel
theorem dX2_codeOfPlan_33 : decode cX2_codeOfPlan 33 = .ok (.iinc 2 1, 3) := by decide +kernel
theorem dX2_codeOfPlan_36 : decode cX2_codeOfPlan 36 = .ok (.goto (-32), 3) := by decide +kernel
theorem dX2_codeOfPlan_39 : decode cX2_codeOfPlan 39 = .ok (.iload_n 1, 1) := by decide +kernel
theorem dX2_codeOfPlan_40 : decode cX2_codeOfPlan 40 = .ok (.ireturn, 1) := by decide +kernel
theorem dX2_wasThere_0 : decode cX2_wasThere 0 = .ok (.iconst 0, 1) := by decide +kernel
theorem dX2_wasThere_1 : decode cX2_wasThere 1 = .ok (.istore_n 2, 1) := by decide +kernel
theorem dX2_wasThere_2 : decode cX2_wasThere 2 = .ok (.iload_n 2, 1) := by decide +kernel
theorem dX2_wasThere_3 : decode cX2_wasThere 3 = .ok (.iload_n 1, 1) := by decide +kernel
theorem dX2_wasThere_4 : decode cX2_wasThere 4 = .ok (.if_icmp .ge 26, 3) := by decide +kernel
theorem dX2_wasThere_7 : decode cX2_wasThere 7 = .ok (.aload_n 0, 1) := by decide +kernel
theorem dX2_wasThere_8 : decode cX2_wasThere 8 = .ok (.getfield 27, 3) := by decide +kernel
theorem dX2_wasThere_11 : decode cX2_wasThere 11 = .ok (.iload_n 2, 1) := by decide +kernel
theorem dX2_wasThere_12 : decode cX2_wasThere 12 = .ok (.iaload, 1) := by decide +kernel
theorem dX2_wasThere_13 : decode cX2_wasThere 13 = .ok (.aload_n 0, 1) := by decide +kernel
theorem dX2_wasThere_14 : decode cX2_wasThere 14 = .ok (.getfield 27, 3) := by decide +kernel
theorem dX2_wasThere_17 : decode cX2_wasThere 17 = .ok (.iload_n 1, 1) := by decide +kernel
theorem dX2_wasThere_18 : decode cX2_wasThere 18 = .ok (.iaload, 1) := by decide +kernel
theorem dX2_wasThere_19 : decode cX2_wasThere 19 = .ok (.if_icmp .ne 5, 3) := by decide +kernel
theorem dX2_wasThere_22 : decode cX2_wasThere 22 = .ok (.iconst 1, 1) := by decide +kernel
theorem dX2_wasThere_23 : decode cX2_wasThere 23 = .ok (.ireturn, 1) := by decide +kernel
theorem dX2_wasThere_24 : decode cX2_wasThere 24 = .ok (.iinc 2 1, 3) := by decide +kernel
theorem dX2_wasThere_27 : decode cX2_wasThere 27 = .ok (.goto (-25), 3) := by decide +kernel
theorem dX2_wasThere_30 : decode cX2_wasThere 30 = .ok (.iconst 0, 1) := by decide +kernel
theorem dX2_wasThere_31 : decode cX2_wasThere 31 = .ok (.ireturn, 1) := by decide +kernel
theorem dX2_settledShift_0 : decode cX2_settledShift 0 = .ok (.iconst 0, 1) := by decide +kernel
theorem dX2_settledShift_1 : decode cX2_settledShift 1 = .ok (.istore_n 2, 1) := by decide +kernel
theorem dX2_settledShift_2 : decode cX2_settledShift 2 = .ok (.iload_n 2, 1) := by decide +kernel
theorem dX2_settledShift_3 : decode cX2_settledShift 3 = .ok (.aload_n 0, 1) := by decide +kernel
theorem dX2_settledShift_4 : decode cX2_settledShift 4 = .ok (.getfield 9, 3) := by decide +kernel
theorem dX2_settledShift_7 : decode cX2_settledShift 7 = .ok (.getfield 89, 3) := by decide +kernel
theorem dX2_settledShift_10 : decode cX2_settledShift 10 = .ok (.if_icmp .ge 32, 3) := by decide +kernel
theorem dX2_settledShift_13 : decode cX2_settledShift 13 = .ok (.aload_n 0, 1) := by decide +kernel
theorem dX2_settledShift_14 : decode cX2_settledShift 14 = .ok (.getfield 9, 3) := by decide +kernel
theorem dX2_settledShift_17 : decode cX2_settledShift 17 = .ok (.getfield 95, 3) := by decide +kernel
theorem dX2_settledShift_20 : decode cX2_settledShift 20 = .ok (.iload_n 2, 1) := by decide +kernel
theorem dX2_settledShift_21 : decode cX2_settledShift 21 = .ok (.iaload, 1) := by decide +kernel
theorem dX2_settledShift_22 : decode cX2_settledShift 22 = .ok (.iload_n 1, 1) := by decide +kernel
theorem dX2_settledShift_23 : decode cX2_settledShift 23 = .ok (.if_icmp .ne 13, 3) := by decide +kernel
theorem dX2_settledShift_26 : decode cX2_settledShift 26 = .ok (.aload_n 0, 1) := by decide +kernel
theorem dX2_settledShift_27 : decode cX2_settledShift 27 = .ok (.getfield 20, 3) := by decide +kernel
theorem dX2_settledShift_30 : decode cX2_settledShift 30 = .ok (.getfield 92, 3) := by decide +kernel
theorem dX2_settledShift_33 : decode cX2_settledShift 33 = .ok (.iload_n 2, 1) := by decide +kernel
theorem dX2_settledShift_34 : decode cX2_settledShift 34 = .ok (.iaload, 1) := by decide +kernel
theorem dX2_settledShift_35 : decode cX2_settledShift 35 = .ok (.ireturn, 1) := by decide +kernel
theorem dX2_settledShift_36 : decode cX2_settledShift 36 = .ok (.iinc 2 1, 3) := by decide +kernel
theorem dX2_settledShift_39 : decode cX2_settledShift 39 = .ok (.goto (-37), 3) := by decide +kernel
theorem dX2_settledShift_42 : decode cX2_settledShift 42 = .ok (.iconst 0, 1) := by decide +kernel
theorem dX2_settledShift_43 : decode cX2_settledShift 43 = .ok (.ireturn, 1) := by decide +kernel
theorem dX3_init_0 : decode cX3_init 0 = .ok (.aload_n 0, 1) := by decide +kernel
theorem dX3_init_1 : decode cX3_init 1 = .ok (.invokespecial 3, 3) := by decide +kernel
theorem dX3_init_4 : decode cX3_init 4 = .ok (.aload_n 0, 1) := by decide +kernel
theorem dX3_init_5 : decode cX3_init 5 = .ok (.bipush 7, 2) := by decide +kernel
theorem dX3_init_7 : decode cX3_init 7 = .ok (.newarray .long, 2) := by decide +kernel
theorem dX3_init_9 : decode cX3_init 9 = .ok (.putfield 9, 3) := by decide +kernel
theorem dX3_init_12 : decode cX3_init 12 = .ok (.return_, 1) := by decide +kernel
theorem dX3_begin_0 : decode cX3_begin 0 = .ok (.aload_n 0, 1) := by decide +kernel
theorem dX3_begin_1 : decode cX3_begin 1 = .ok (.getfield 9, 3) := by decide +kernel
theorem dX3_begin_4 : decode cX3_begin 4 = .ok (.lconst 0, 1) := by decide +kernel
theorem dX3_begin_5 : decode cX3_begin 5 = .ok (.invokestatic 15, 3) := by decide +kernel
theorem dX3_begin_8 : decode cX3_begin 8 = .ok (.aload_n 0, 1) := by decide +kernel
theorem dX3_begin_9 : decode cX3_begin 9 = .ok (.iload_n 1, 1) := by decide +kernel
theorem dX3_begin_10 : decode cX3_begin 10 = .ok (.putfield 21, 3) := by decide +kernel
theorem dX3_begin_13 : decode cX3_begin 13 = .ok (.aload_n 0, 1) := by decide +kernel
theorem dX3_begin_14 : decode cX3_begin 14 = .ok (.iload_n 3, 1) := by decide +kernel
theorem dX3_begin_15 : decode cX3_begin 15 = .ok (.i2l, 1) := by decide +kernel
theorem dX3_begin_16 : decode cX3_begin 16 = .ok (.putfield 25, 3) := by decide +kernel
theorem dX3_begin_19 : decode cX3_begin 19 = .ok (.aload_n 0, 1) := by decide +kernel
theorem dX3_begin_20 : decode cX3_begin 20 = .ok (.lconst 0, 1) := by decide +kernel
theorem dX3_begin_21 : decode cX3_begin 21 = .ok (.putfield 29, 3) := by decide +kernel
theorem dX3_begin_24 : decode cX3_begin 24 = .ok (.iload_n 2, 1) := by decide +kernel
theorem dX3_begin_25 : decode cX3_begin 25 = .ok (.ifCond .lt 18, 3) := by decide +kernel
theorem dX3_begin_28 : decode cX3_begin 28 = .ok (.iload_n 2, 1) := by decide +kernel
theorem dX3_begin_29 : decode cX3_begin 29 = .ok (.bipush 7, 2) := by decide +kernel
theorem dX3_begin_31 : decode cX3_begin 31 = .ok (.if_icmp .ge 12, 3) := by decide +kernel
theorem dX3_begin_34 : decode cX3_begin 34 = .ok (.aload_n 0, 1) := by decide +kernel
theorem dX3_begin_35 : decode cX3_begin 35 = .ok (.getfield 9, 3) := by decide +kernel
theorem dX3_begin_38 : decode cX3_begin 38 = .ok (.iload_n 2, 1) := by decide +kernel
theorem dX3_begin_39 : decode cX3_begin 39 = .ok (.ldc2_w 32, 3) := by decide +kernel
theorem dX3_begin_42 : decode cX3_begin 42 = .ok (.lastore, 1) := by decide +kernel
theorem dX3_begin_43 : decode cX3_begin 43 = .ok (.return_, 1) := by decide +kernel
theorem dX3_goOnADay_0 : decode cX3_goOnADay 0 = .ok (.lconst 0, 1) := by decide +kernel
theorem dX3_goOnADay_1 : decode cX3_goOnADay 1 = .ok (.lstore_n 1, 1) := by decide +kernel
theorem dX3_goOnADay_2 : decode cX3_goOnADay 2 = .ok (.aload_n 0, 1) := by decide +kernel
theorem dX3_goOnADay_3 : decode cX3_goOnADay 3 = .ok (.getfield 21, 3) := by decide +kernel
theorem dX3_goOnADay_6 : decode cX3_goOnADay 6 = .ok (.iconst 1, 1) := by decide +kernel
theorem dX3_goOnADay_7 : decode cX3_goOnADay 7 = .ok (.isub, 1) := by decide +kernel
theorem dX3_goOnADay_8 : decode cX3_goOnADay 8 = .ok (.istore_n 3, 1) := by decide +kernel
theorem dX3_goOnADay_9 : decode cX3_goOnADay 9 = .ok (.iload_n 3, 1) := by decide +kernel
theorem dX3_goOnADay_10 : decode cX3_goOnADay 10 = .ok (.ifCond .lt 72, 3) := by decide +kernel
theorem dX3_goOnADay_13 : decode cX3_goOnADay 13 = .ok (.aload_n 0, 1) := by decide +kernel
theorem dX3_goOnADay_14 : decode cX3_goOnADay 14 = .ok (.getfield 9, 3) := by decide +kernel
theorem dX3_goOnADay_17 : decode cX3_goOnADay 17 = .ok (.iload_n 3, 1) := by decide +kernel
theorem dX3_goOnADay_18 : decode cX3_goOnADay 18 = .ok (.laload, 1) := by decide +kernel
theorem dX3_goOnADay_19 : decode cX3_goOnADay 19 = .ok (.aload_n 0, 1) := by decide +kernel
theorem dX3_goOnADay_20 : decode cX3_goOnADay 20 = .ok (.getfield 25, 3) := by decide +kernel
theorem dX3_goOnADay_23 : decode cX3_goOnADay 23 = .ok (.lmul, 1) := by decide +kernel
theorem dX3_goOnADay_24 : decode cX3_goOnADay 24 = .ok (.ldc2_w 32, 3) := by decide +kernel
theorem dX3_goOnADay_27 : decode cX3_goOnADay 27 = .ok (.ldiv, 1) := by decide +kernel
theorem dX3_goOnADay_28 : decode cX3_goOnADay 28 = .ok (.lstore 4, 2) := by decide +kernel
theorem dX3_goOnADay_30 : decode cX3_goOnADay 30 = .ok (.lload_n 1, 1) := by decide +kernel
theorem dX3_goOnADay_31 : decode cX3_goOnADay 31 = .ok (.aload_n 0, 1) := by decide +kernel
theorem dX3_goOnADay_32 : decode cX3_goOnADay 32 = .ok (.getfield 9, 3) := by decide +kernel
theorem dX3_goOnADay_35 : decode cX3_goOnADay 35 = .ok (.iload_n 3, 1) := by decide +kernel
theorem dX3_goOnADay_36 : decode cX3_goOnADay 36 = .ok (.laload, 1) := by decide +kernel
theorem dX3_goOnADay_37 : decode cX3_goOnADay 37 = .ok (.lload 4, 2) := by decide +kernel
theorem dX3_goOnADay_39 : decode cX3_goOnADay 39 = .ok (.lsub, 1) := by decide +kernel
theorem dX3_goOnADay_40 : decode cX3_goOnADay 40 = .ok (.ladd, 1) := by decide +kernel
theorem dX3_goOnADay_41 : decode cX3_goOnADay 41 = .ok (.lstore_n 1, 1) := by decide +kernel
theorem dX3_goOnADay_42 : decode cX3_goOnADay 42 = .ok (.iload_n 3, 1) := by decide +kernel
theorem dX3_goOnADay_43 : decode cX3_goOnADay 43 = .ok (.aload_n 0, 1) := by decide +kernel
theorem dX3_goOnADay_44 : decode cX3_goOnADay 44 = .ok (.getfield 21, 3) := by decide +kernel
theorem dX3_goOnADay_47 : decode cX3_goOnADay 47 = .ok (.iconst 1, 1) := by decide +kernel
theorem dX3_goOnADay_48 : decode cX3_goOnADay 48 = .ok (.isub, 1) := by decide +kernel
theorem dX3_goOnADay_49 : decode cX3_goOnADay 49 = .ok (.if_icmp .ne 17, 3) := by decide +kernel
theorem dX3_goOnADay_52 : decode cX3_goOnADay 52 = .ok (.aload_n 0, 1) := by decide +kernel
theorem dX3_goOnADay_53 : decode cX3_goOnADay 53 = .ok (.dup, 1) := by decide +kernel
theorem dX3_goOnADay_54 : decode cX3_goOnADay 54 = .ok (.getfield 29, 3) := by decide +kernel
theorem dX3_goOnADay_57 : decode cX3_goOnADay 57 = .ok (.lload 4, 2) := by decide +kernel
theorem dX3_goOnADay_59 : decode cX3_goOnADay 59 = .ok (.ladd, 1) := by decide +kernel
theorem dX3_goOnADay_60 : decode cX3_goOnADay 60 = .ok (.putfield 29, 3) := by decide +kernel
theorem dX3_goOnADay_63 : decode cX3_goOnADay 63 = .ok (.goto 13, 3) := by decide +kernel
theorem dX3_goOnADay_66 : decode cX3_goOnADay 66 = .ok (.aload_n 0, 1) := by decide +kernel
theorem dX3_goOnADay_67 : decode cX3_goOnADay 67 = .ok (.getfield 9, 3) := by decide +kernel
theorem dX3_goOnADay_70 : decode cX3_goOnADay 70 = .ok (.iload_n 3, 1) := by decide +kernel
theorem dX3_goOnADay_71 : decode cX3_goOnADay 71 = .ok (.iconst 1, 1) := by decide +kernel
theorem dX3_goOnADay_72 : decode cX3_goOnADay 72 = .ok (.iadd, 1) := by decide +kernel
theorem dX3_goOnADay_73 : decode cX3_goOnADay 73 = .ok (.lload 4, 2) := by decide +kernel
theorem dX3_goOnADay_75 : decode cX3_goOnADay 75 = .ok (.lastore, 1) := by decide +kernel
theorem dX3_goOnADay_76 : decode cX3_goOnADay 76 = .ok (.iinc 3 (-1), 3) := by decide +kernel
theorem dX3_goOnADay_79 : decode cX3_goOnADay 79 = .ok (.goto (-70), 3) := by decide +kernel
theorem dX3_goOnADay_82 : decode cX3_goOnADay 82 = .ok (.aload_n 0, 1) := by decide +kernel
theorem dX3_goOnADay_83 : decode cX3_goOnADay 83 = .ok (.getfield 9, 3) := by decide +kernel
theorem dX3_goOnADay_86 : decode cX3_goOnADay 86 = .ok (.iconst 0, 1) := by decide +kernel
theorem dX3_goOnADay_87 : decode cX3_goOnADay 87 = .ok (.lload_n 1, 1) := by decide +kernel
theorem dX3_goOnADay_88 : decode cX3_goOnADay 88 = .ok (.lastore, 1) := by decide +kernel
theorem dX3_goOnADay_89 : decode cX3_goOnADay 89 = .ok (.return_, 1) := by decide +kernel
theorem dX4_init_0 : decode cX4_init 0 = .ok (.aload_n 0, 1) := by decide +kernel
theorem dX4_init_1 : decode cX4_init 1 = .ok (.invokespecial 3, 3) := by decide +kernel
theorem dX4_init_4 : decode cX4_init 4 = .ok (.aload_n 0, 1) := by decide +kernel
theorem dX4_init_5 : decode cX4_init 5 = .ok (.sipush 400, 3) := by decide +kernel
theorem dX4_init_8 : decode cX4_init 8 = .ok (.newarray .byte, 2) := by decide +kernel
theorem dX4_init_10 : decode cX4_init 10 = .ok (.putfield 9, 3) := by decide +kernel
theorem dX4_init_13 : decode cX4_init 13 = .ok (.aload_n 0, 1) := by decide +kernel
theorem dX4_init_14 : decode cX4_init 14 = .ok (.new 15, 3) := by decide +kernel
theorem dX4_init_17 : decode cX4_init 17 = .ok (.dup, 1) := by decide +kernel
theorem dX4_init_18 : decode cX4_init 18 = .ok (.invokespecial 17, 3) := by decide +kernel
theorem dX4_init_21 : decode cX4_init 21 = .ok (.putfield 18, 3) := by decide +kernel
theorem dX4_init_24 : decode cX4_init 24 = .ok (.aload_n 0, 1) := by decide +kernel
theorem dX4_init_25 : decode cX4_init 25 = .ok (.iconst (-1), 1) := by decide +kernel
theorem dX4_init_26 : decode cX4_init 26 = .ok (.putfield 22, 3) := by decide +kernel
theorem dX4_init_29 : decode cX4_init 29 = .ok (.return_, 1) := by decide +kernel
theorem dX4_append_0 : decode cX4_append 0 = .ok (.iload_n 1, 1) := by decide +kernel
theorem dX4_append_1 : decode cX4_append 1 = .ok (.sipush 400, 3) := by decide +kernel
theorem dX4_append_4 : decode cX4_append 4 = .ok (.aload_n 0, 1) := by decide +kernel
theorem dX4_append_5 : decode cX4_append 5 = .ok (.getfield 26, 3) := by decide +kernel
theorem dX4_append_8 : decode cX4_append 8 = .ok (.isub, 1) := by decide +kernel
theorem dX4_append_9 : decode cX4_append 9 = .ok (.if_icmp .le 5, 3) := by decide +kernel
theorem dX4_append_12 : decode cX4_append 12 = .ok (.iconst 0, 1) := by decide +kernel
theorem dX4_append_13 : decode cX4_append 13 = .ok (.ireturn, 1) := by decide +kernel
theorem dX4_append_14 : decode cX4_append 14 = .ok (.iload_n 1, 1) := by decide +kernel
theorem dX4_append_15 : decode cX4_append 15 = .ok (.iconst 1, 1) := by decide +kernel
theorem dX4_append_16 : decode cX4_append 16 = .ok (.isub, 1) := by decide +kernel
theorem dX4_append_17 : decode cX4_append 17 = .ok (.istore 4, 2) := by decide +kernel
theorem dX4_append_19 : decode cX4_append 19 = .ok (.iload 4, 2) := by decide +kernel
theorem dX4_append_21 : decode cX4_append 21 = .ok (.ifCond .lt 37, 3) := by decide +kernel
theorem dX4_append_24 : decode cX4_append 24 = .ok (.aload_n 0, 1) := by decide +kernel
theorem dX4_append_25 : decode cX4_append 25 = .ok (.getfield 9, 3) := by decide +kernel
theorem dX4_append_28 : decode cX4_append 28 = .ok (.aload_n 0, 1) := by decide +kernel
theorem dX4_append_29 : decode cX4_append 29 = .ok (.getfield 26, 3) := by decide +kernel
theorem dX4_append_32 : decode cX4_append 32 = .ok (.lload_n 2, 1) := by decide +kernel
theorem dX4_append_33 : decode cX4_append 33 = .ok (.bipush 8, 2) := by decide +kernel
theorem dX4_append_35 : decode cX4_append 35 = .ok (.iload 4, 2) := by decide +kernel
theorem dX4_append_37 : decode cX4_append 37 = .ok (.imul, 1) := by decide +kernel
theorem dX4_append_38 : decode cX4_append 38 = .ok (.lushr, 1) := by decide +kernel
theorem dX4_append_39 : decode cX4_append 39 = .ok (.l2i, 1) := by decide +kernel
theorem dX4_append_40 : decode cX4_append 40 = .ok (.i2b, 1) := by decide +kernel
theorem dX4_append_41 : decode cX4_append 41 = .ok (.bastore, 1) := by decide +kernel
theorem dX4_append_42 : decode cX4_append 42 = .ok (.aload_n 0, 1) := by decide +kernel
theorem dX4_append_43 : decode cX4_append 43 = .ok (.dup, 1) := by decide +kernel
theorem dX4_append_44 : decode cX4_append 44 = .ok (.getfield 26, 3) := by decide +kernel
theorem dX4_append_47 : decode cX4_append 47 = .ok (.iconst 1, 1) := by decide +kernel
theorem dX4_append_48 : decode cX4_append 48 = .ok (.iadd, 1) := by decide +kernel
theorem dX4_append_49 : decode cX4_append 49 = .ok (.putfield 26, 3) := by decide +kernel
theorem dX4_append_52 : decode cX4_append 52 = .ok (.iinc 4 (-1), 3) := by decide +kernel
theorem dX4_append_55 : decode cX4_append 55 = .ok (.goto (-36), 3) := by decide +kernel
theorem dX4_append_58 : decode cX4_append 58 = .ok (.iconst 1, 1) := by decide +kernel
theorem dX4_append_59 : decode cX4_append 59 = .ok (.ireturn, 1) := by decide +kernel
theorem dX4_readAll_0 : decode cX4_readAll 0 = .ok (.aload_n 0, 1) := by decide +kernel
theorem dX4_readAll_1 : decode cX4_readAll 1 = .ok (.getfield 18, 3) := by decide +kernel
theorem dX4_readAll_4 : decode cX4_readAll 4 = .ok (.iconst 0, 1) := by decide +kernel
theorem dX4_readAll_5 : decode cX4_readAll 5 = .ok (.putfield 29, 3) := by decide +kernel
theorem dX4_readAll_8 : decode cX4_readAll 8 = .ok (.aload_n 0, 1) := by decide +kernel
theorem dX4_readAll_9 : decode cX4_readAll 9 = .ok (.getfield 18, 3) := by decide +kernel
theorem dX4_readAll_12 : decode cX4_readAll 12 = .ok (.iconst 0, 1) := by decide +kernel
theorem dX4_readAll_13 : decode cX4_readAll 13 = .ok (.putfield 32, 3) := by decide +kernel
theorem dX4_readAll_16 : decode cX4_readAll 16 = .ok (.aload_n 0, 1) := by decide +kernel
theorem dX4_readAll_17 : decode cX4_readAll 17 = .ok (.iconst 0, 1) := by decide +kernel
theorem dX4_readAll_18 : decode cX4_readAll 18 = .ok (.putfield 35, 3) := by decide +kernel
theorem dX4_readAll_21 : decode cX4_readAll 21 = .ok (.aload_n 0, 1) := by decide +kernel
theorem dX4_readAll_22 : decode cX4_readAll 22 = .ok (.iconst 0, 1) := by decide +kernel
theorem dX4_readAll_23 : decode cX4_readAll 23 = .ok (.putfield 38, 3) := by decide +kernel
theorem dX4_readAll_26 : decode cX4_readAll 26 = .ok (.aload_n 0, 1) := by decide +kernel
theorem dX4_readAll_27 : decode cX4_readAll 27 = .ok (.iconst (-1), 1) := by decide +kernel
theorem dX4_readAll_28 : decode cX4_readAll 28 = .ok (.putfield 22, 3) := by decide +kernel
theorem dX4_readAll_31 : decode cX4_readAll 31 = .ok (.aload_n 0, 1) := by decide +kernel
theorem dX4_readAll_32 : decode cX4_readAll 32 = .ok (.invokevirtual 41, 3) := by decide +kernel
theorem dX4_readAll_35 : decode cX4_readAll 35 = .ok (.iconst 0, 1) := by decide +kernel
theorem dX4_readAll_36 : decode cX4_readAll 36 = .ok (.istore_n 1, 1) := by decide +kernel
theorem dX4_readAll_37 : decode cX4_readAll 37 = .ok (.iload_n 1, 1) := by decide +kernel
theorem dX4_readAll_38 : decode cX4_readAll 38 = .ok (.sipush 400, 3) := by decide +kernel
theorem dX4_readAll_41 : decode cX4_readAll 41 = .ok (.if_icmp .ge 35, 3) := by decide +kernel
theorem dX4_readAll_44 : decode cX4_readAll 44 = .ok (.aload_n 0, 1) := by decide +kernel
theorem dX4_readAll_45 : decode cX4_readAll 45 = .ok (.getfield 35, 3) := by decide +kernel
theorem dX4_readAll_48 : decode cX4_readAll 48 = .ok (.aload_n 0, 1) := by decide +kernel
theorem dX4_readAll_49 : decode cX4_readAll 49 = .ok (.getfield 26, 3) := by decide +kernel
theorem dX4_readAll_52 : decode cX4_readAll 52 = .ok (.if_icmp .ge 24, 3) := by decide +kernel
theorem dX4_readAll_55 : decode cX4_readAll 55 = .ok (.aload_n 0, 1) := by decide +kernel
theorem dX4_readAll_56 : decode cX4_readAll 56 = .ok (.getfield 38, 3) := by decide +kernel
theorem dX4_readAll_59 : decode cX4_readAll 59 = .ok (.ifCond .ne 17, 3) := by decide +kernel
theorem dX4_readAll_62 : decode cX4_readAll 62 = .ok (.aload_n 0, 1) := by decide +kernel
theorem dX4_readAll_63 : decode cX4_readAll 63 = .ok (.invokevirtual 44, 3) := by decide +kernel
theorem dX4_readAll_66 : decode cX4_readAll 66 = .ok (.aload_n 0, 1) := by decide +kernel
theorem dX4_readAll_67 : decode cX4_readAll 67 = .ok (.invokevirtual 41, 3) := by decide +kernel
theorem dX4_readAll_70 : decode cX4_readAll 70 = .ok (.iinc 1 1, 3) := by decide +kernel
theorem dX4_readAll_73 : decode cX4_readAll 73 = .ok (.goto (-36), 3) := by decide +kernel
theorem dX4_readAll_76 : decode cX4_readAll 76 = .ok (.aload_n 0, 1) := by decide +kernel
theorem dX4_readAll_77 : decode cX4_readAll 77 = .ok (.iconst 0, 1) := by decide +kernel
theorem dX4_readAll_78 : decode cX4_readAll 78 = .ok (.putfield 26, 3) := by decide +kernel
theorem dX4_readAll_81 : decode cX4_readAll 81 = .ok (.aload_n 0, 1) := by decide +kernel
theorem dX4_readAll_82 : decode cX4_readAll 82 = .ok (.getfield 38, 3) := by decide +kernel
theorem dX4_readAll_85 : decode cX4_readAll 85 = .ok (.ireturn, 1) := by decide +kernel
theorem dX4_readClause_0 : decode cX4_readClause 0 = .ok (.aload_n 0, 1) := by decide +kernel
theorem dX4_readClause_1 : decode cX4_readClause 1 = .ok (.getfield 35, 3) := by decide +kernel
theorem dX4_readClause_4 : decode cX4_readClause 4 = .ok (.istore_n 1, 1) := by decide +kernel
theorem dX4_readClause_5 : decode cX4_readClause 5 = .ok (.aload_n 0, 1) := by decide +kernel
theorem dX4_readClause_6 : decode cX4_readClause 6 = .ok (.getfield 35, 3) := by decide +kernel
theorem dX4_readClause_9 : decode cX4_readClause 9 = .ok (.aload_n 0, 1) := by decide +kernel
theorem dX4_readClause_10 : decode cX4_readClause 10 = .ok (.getfield 26, 3) := by decide +kernel
theorem dX4_readClause_13 : decode cX4_readClause 13 = .ok (.if_icmp .ge 44, 3) := by decide +kernel
theorem dX4_readClause_16 : decode cX4_readClause 16 = .ok (.aload_n 0, 1) := by decide +kernel
theorem dX4_readClause_17 : decode cX4_readClause 17 = .ok (.getfield 9, 3) := by decide +kernel
theorem dX4_readClause_20 : decode cX4_readClause 20 = .ok (.aload_n 0, 1) := by decide +kernel
theorem dX4_readClause_21 : decode cX4_readClause 21 = .ok (.getfield 35, 3) := by decide +kernel
theorem dX4_readClause_24 : decode cX4_readClause 24 = .ok (.baload, 1) := by decide +kernel
theorem dX4_readClause_25 : decode cX4_readClause 25 = .ok (.bipush 97, 2) := by decide +kernel
theorem dX4_readClause_27 : decode cX4_readClause 27 = .ok (.if_icmp .lt 30, 3) := by decide +kernel
theorem dX4_readClause_30 : decode cX4_readClause 30 = .ok (.aload_n 0, 1) := by decide +kernel
theorem dX4_readClause_31 : decode cX4_readClause 31 = .ok (.getfield 9, 3) := by decide +kernel
theorem dX4_readClause_34 : decode cX4_readClause 34 = .ok (.aload_n 0, 1) := by decide +kernel
theorem dX4_readClause_35 : decode cX4_readClause 35 = .ok (.getfield 35, 3) := by decide +kernel
theorem dX4_readClause_38 : decode cX4_readClause 38 = .ok (.baload, 1) := by decide +kernel
theorem dX4_readClause_39 : decode cX4_readClause 39 = .ok (.bipush 122, 2) := by decide +kernel
theorem dX4_readClause_41 : decode cX4_readClause 41 = .ok (.if_icmp .gt 16, 3) := by decide +kernel
theorem dX4_readClause_44 : decode cX4_readClause 44 = .ok (.aload_n 0, 1) := by decide +kernel
theorem dX4_readClause_45 : decode cX4_readClause 45 = .ok (.dup, 1) := by decide +kernel
theorem dX4_readClause_46 : decode cX4_readClause 46 = .ok (.getfield 35, 3) := by decide +kernel
theorem dX4_readClause_49 : decode cX4_readClause 49 = .ok (.iconst 1, 1) := by decide +kernel
theorem dX4_readClause_50 : decode cX4_readClause 50 = .ok (.iadd, 1) := by decide +kernel
theorem dX4_readClause_51 : decode cX4_readClause 51 = .ok (.putfield 35, 3) := by decide +kernel
theorem dX4_readClause_54 : decode cX4_readClause 54 = .ok (.goto (-49), 3) := by decide +kernel
theorem dX4_readClause_57 : decode cX4_readClause 57 = .ok (.aload_n 0, 1) := by decide +kernel
theorem dX4_readClause_58 : decode cX4_readClause 58 = .ok (.iload_n 1, 1) := by decide +kernel
theorem dX4_readClause_59 : decode cX4_readClause 59 = .ok (.ldc 47, 2) := by decide +kernel
theorem dX4_readClause_61 : decode cX4_readClause 61 = .ok (.invokevirtual 49, 3) := by decide +kernel
theorem dX4_readClause_64 : decode cX4_readClause 64 = .ok (.ifCond .eq 11, 3) := by decide +kernel
theorem dX4_readClause_67 : decode cX4_readClause 67 = .ok (.aload_n 0, 1) := by decide +kernel
theorem dX4_readClause_68 : decode cX4_readClause 68 = .ok (.iload_n 1, 1) := by decide +kernel
theorem dX4_readClause_69 : decode cX4_readClause 69 = .ok (.invokevirtual 53, 3) := by decide +kernel
theorem dX4_readClause_72 : decode cX4_readClause 72 = .ok (.goto 27, 3) := by decide +kernel
theorem dX4_readClause_75 : decode cX4_readClause 75 = .ok (.aload_n 0, 1) := by decide +kernel
theorem dX4_readClause_76 : decode cX4_readClause 76 = .ok (.iload_n 1, 1) := by decide +kernel
theorem dX4_readClause_77 : decode cX4_readClause 77 = .ok (.ldc 57, 2) := by decide +kernel
theorem dX4_readClause_79 : decode cX4_readClause 79 = .ok (.invokevirtual 49, 3) := by decide +kernel
theorem dX4_readClause_82 : decode cX4_readClause 82 = .ok (.ifCond .eq 11, 3) := by decide +kernel
theorem dX4_readClause_85 : decode cX4_readClause 85 = .ok (.aload_n 0, 1) := by decide +kernel
theorem dX4_readClause_86 : decode cX4_readClause 86 = .ok (.iload_n 1, 1) := by decide +kernel
theorem dX4_readClause_87 : decode cX4_readClause 87 = .ok (.invokevirtual 59, 3) := by decide +kernel
theorem dX4_readClause_90 : decode cX4_readClause 90 = .ok (.goto 9, 3) := by decide +kernel
theorem dX4_readClause_93 : decode cX4_readClause 93 = .ok (.aload_n 0, 1) := by decide +kernel
theorem dX4_readClause_94 : decode cX4_readClause 94 = .ok (.iconst 1, 1) := by decide +kernel
theorem dX4_readClause_95 : decode cX4_readClause 95 = .ok (.iload_n 1, 1) := by decide +kernel
theorem dX4_readClause_96 : decode cX4_readClause 96 = .ok (.invokevirtual 62, 3) := by decide +kernel
theorem dX4_readClause_99 : decode cX4_readClause 99 = .ok (.return_, 1) := by decide +kernel
theorem dX4_isWord_0 : decode cX4_isWord 0 = .ok (.aload_n 0, 1) := by decide +kernel
theorem dX4_isWord_1 : decode cX4_isWord 1 = .ok (.getfield 35, 3) := by decide +kernel
theorem dX4_isWord_4 : decode cX4_isWord 4 = .ok (.iload_n 1, 1) := by decide +kernel
theorem dX4_isWord_5 : decode cX4_isWord 5 = .ok (.isub, 1) := by decide +kernel
theorem dX4_isWord_6 : decode cX4_isWord 6 = .ok (.aload_n 2, 1) := by decide +kernel
theorem dX4_isWord_7 : decode cX4_isWord 7 = .ok (.invokevirtual 66, 3) := by decide +kernel
theorem dX4_isWord_10 : decode cX4_isWord 10 = .ok (.if_icmp .eq 5, 3) := by decide +kernel
theorem dX4_isWord_13 : decode cX4_isWord 13 = .ok (.iconst 0, 1) := by decide +kernel
theorem dX4_isWord_14 : decode cX4_isWord 14 = .ok (.ireturn, 1) := by decide +kernel
theorem dX4_isWord_15 : decode cX4_isWord 15 = .ok (.iconst 0, 1) := by decide +kernel
theorem dX4_isWord_16 : decode cX4_isWord 16 = .ok (.istore_n 3, 1) := by decide +kernel
theorem dX4_isWord_17 : decode cX4_isWord 17 = .ok (.iload_n 3, 1) := by decide +kernel
theorem dX4_isWord_18 : decode cX4_isWord 18 = .ok (.aload_n 2, 1) := by decide +kernel
theorem dX4_isWord_19 : decode cX4_isWord 19 = .ok (.invokevirtual 66, 3) := by decide +kernel
theorem dX4_isWord_22 : decode cX4_isWord 22 = .ok (.if_icmp .ge 27, 3) := by decide +kernel
theorem dX4_isWord_25 : decode cX4_isWord 25 = .ok (.aload_n 0, 1) := by decide +kernel
theorem dX4_isWord_26 : decode cX4_isWord 26 = .ok (.getfield 9, 3) := by decide +kernel
theorem dX4_isWord_29 : decode cX4_isWord 29 = .ok (.iload_n 1, 1) := by decide +kernel
theorem dX4_isWord_30 : decode cX4_isWord 30 = .ok (.iload_n 3, 1) := by decide +kernel
theorem dX4_isWord_31 : decode cX4_isWord 31 = .ok (.iadd, 1) := by decide +kernel
theorem dX4_isWord_32 : decode cX4_isWord 32 = .ok (.baload, 1) := by decide +kernel
theorem dX4_isWord_33 : decode cX4_isWord 33 = .ok (.aload_n 2, 1) := by decide +kernel
theorem dX4_isWord_34 : decode cX4_isWord 34 = .ok (.iload_n 3, 1) := by decide +kernel
theorem dX4_isWord_35 : decode cX4_isWord 35 = .ok (.invokevirtual 71, 3) := by decide +kernel
theorem dX4_isWord_38 : decode cX4_isWord 38 = .ok (.if_icmp .eq 5, 3) := by decide +kernel
theorem dX4_isWord_41 : decode cX4_isWord 41 = .ok (.iconst 0, 1) := by decide +kernel
theorem dX4_isWord_42 : decode cX4_isWord 42 = .ok (.ireturn, 1) := by decide +kernel
theorem dX4_isWord_43 : decode cX4_isWord 43 = .ok (.iinc 3 1, 3) := by decide +kernel
theorem dX4_isWord_46 : decode cX4_isWord 46 = .ok (.goto (-29), 3) := by decide +kernel
theorem dX4_isWord_49 : decode cX4_isWord 49 = .ok (.iconst 1, 1) := by decide +kernel
theorem dX4_isWord_50 : decode cX4_isWord 50 = .ok (.ireturn, 1) := by decide +kernel
theorem dX4_readHouse_0 : decode cX4_readHouse 0 = .ok (.aload_n 0, 1) := by decide +kernel
theorem dX4_readHouse_1 : decode cX4_readHouse 1 = .ok (.getfield 18, 3) := by decide +kernel
theorem dX4_readHouse_4 : decode cX4_readHouse 4 = .ok (.getfield 29, 3) := by decide +kernel
theorem dX4_readHouse_7 : decode cX4_readHouse 7 = .ok (.istore_n 2, 1) := by decide +kernel
theorem dX4_readHouse_8 : decode cX4_readHouse 8 = .ok (.iload_n 2, 1) := by decide +kernel
theorem dX4_readHouse_9 : decode cX4_readHouse 9 = .ok (.iconst 5, 1) := by decide +kernel
theorem dX4_readHouse_10 : decode cX4_readHouse 10 = .ok (.if_icmp .lt 10, 3) := by decide +kernel
theorem dX4_readHouse_13 : decode cX4_readHouse 13 = .ok (.aload_n 0, 1) := by decide +kernel
theorem dX4_readHouse_14 : decode cX4_readHouse 14 = .ok (.iconst 3, 1) := by decide +kernel
theorem dX4_readHouse_15 : decode cX4_readHouse 15 = .ok (.iload_n 1, 1) := by decide +kernel
theorem dX4_readHouse_16 : decode cX4_readHouse 16 = .ok (.invokevirtual 62, 3) := by decide +kernel
theorem dX4_readHouse_19 : decode cX4_readHouse 19 = .ok (.return_, 1) := by decide +kernel
theorem dX4_readHouse_20 : decode cX4_readHouse 20 = .ok (.aload_n 0, 1) := by decide +kernel
theorem dX4_readHouse_21 : decode cX4_readHouse 21 = .ok (.getfield 18, 3) := by decide +kernel
theorem dX4_readHouse_24 : decode cX4_readHouse 24 = .ok (.getfield 75, 3) := by decide +kernel
theorem dX4_readHouse_27 : decode cX4_readHouse 27 = .ok (.iload_n 2, 1) := by decide +kernel
theorem dX4_readHouse_28 : decode cX4_readHouse 28 = .ok (.aload_n 0, 1) := by decide +kernel
theorem dX4_readHouse_29 : decode cX4_readHouse 29 = .ok (.iconst 1, 1) := by decide +kernel
theorem dX4_readHouse_30 : decode cX4_readHouse 30 = .ok (.bipush 7, 2) := by decide +kernel
theorem dX4_readHouse_32 : decode cX4_readHouse 32 = .ok (.invokevirtual 79, 3) := by decide +kernel
theorem dX4_readHouse_35 : decode cX4_readHouse 35 = .ok (.iastore, 1) := by decide +kernel
theorem dX4_readHouse_36 : decode cX4_readHouse 36 = .ok (.aload_n 0, 1) := by decide +kernel
theorem dX4_readHouse_37 : decode cX4_readHouse 37 = .ok (.getfield 18, 3) := by decide +kernel
theorem dX4_readHouse_40 : decode cX4_readHouse 40 = .ok (.getfield 83, 3) := by decide +kernel
theorem dX4_readHouse_43 : decode cX4_readHouse 43 = .ok (.iload_n 2, 1) := by decide +kernel
theorem dX4_readHouse_44 : decode cX4_readHouse 44 = .ok (.aload_n 0, 1) := by decide +kernel
theorem dX4_readHouse_45 : decode cX4_readHouse 45 = .ok (.iconst 0, 1) := by decide +kernel
theorem dX4_readHouse_46 : decode cX4_readHouse 46 = .ok (.sipush 999, 3) := by decide +kernel
theorem dX4_readHouse_49 : decode cX4_readHouse 49 = .ok (.invokevirtual 79, 3) := by decide +kernel
theorem dX4_readHouse_52 : decode cX4_readHouse 52 = .ok (.iastore, 1) := by decide +kernel
theorem dX4_readHouse_53 : decode cX4_readHouse 53 = .ok (.aload_n 0, 1) := by decide +kernel
theorem dX4_readHouse_54 : decode cX4_readHouse 54 = .ok (.getfield 18, 3) := by decide +kernel
theorem dX4_readHouse_57 : decode cX4_readHouse 57 = .ok (.getfield 86, 3) := by decide +kernel
theorem dX4_readHouse_60 : decode cX4_readHouse 60 = .ok (.iload_n 2, 1) := by decide +kernel
theorem dX4_readHouse_61 : decode cX4_readHouse 61 = .ok (.aload_n 0, 1) := by decide +kernel
theorem dX4_readHouse_62 : decode cX4_readHouse 62 = .ok (.iconst 0, 1) := by decide +kernel
theorem dX4_readHouse_63 : decode cX4_readHouse 63 = .ok (.bipush 60, 2) := by decide +kernel
theorem dX4_readHouse_65 : decode cX4_readHouse 65 = .ok (.invokevirtual 79, 3) := by decide +kernel
theorem dX4_readHouse_68 : decode cX4_readHouse 68 = .ok (.iastore, 1) := by decide +kernel
theorem dX4_readHouse_69 : decode cX4_readHouse 69 = .ok (.aload_n 0, 1) := by decide +kernel
theorem dX4_readHouse_70 : decode cX4_readHouse 70 = .ok (.invokevirtual 89, 3) := by decide +kernel
theorem dX4_readHouse_73 : decode cX4_readHouse 73 = .ok (.aload_n 0, 1) := by decide +kernel
theorem dX4_readHouse_74 : decode cX4_readHouse 74 = .ok (.getfield 18, 3) := by decide +kernel
theorem dX4_readHouse_77 : decode cX4_readHouse 77 = .ok (.iload_n 2, 1) := by decide +kernel
theorem dX4_readHouse_78 : decode cX4_readHouse 78 = .ok (.iconst 1, 1) := by decide +kernel
theorem dX4_readHouse_79 : decode cX4_readHouse 79 = .ok (.iadd, 1) := by decide +kernel
theorem dX4_readHouse_80 : decode cX4_readHouse 80 = .ok (.putfield 29, 3) := by decide +kernel
theorem dX4_readHouse_83 : decode cX4_readHouse 83 = .ok (.return_, 1) := by decide +kernel
theorem dX4_readSleeper_0 : decode cX4_readSleeper 0 = .ok (.aload_n 0, 1) := by decide +kernel
theorem dX4_readSleeper_1 : decode cX4_readSleeper 1 = .ok (.getfield 18, 3) := by decide +kernel
theorem dX4_readSleeper_4 : decode cX4_readSleeper 4 = .ok (.getfield 32, 3) := by decide +kernel
theorem dX4_readSleeper_7 : decode cX4_readSleeper 7 = .ok (.istore_n 2, 1) := by decide +kernel
theorem dX4_readSleeper_8 : decode cX4_readSleeper 8 = .ok (.iload_n 2, 1) := by decide +kernel
theorem dX4_readSleeper_9 : decode cX4_readSleeper 9 = .ok (.bipush 8, 2) := by decide +kernel
theorem dX4_readSleeper_11 : decode cX4_readSleeper 11 = .ok (.if_icmp .lt 10, 3) := by decide +kernel
theorem dX4_readSleeper_14 : decode cX4_readSleeper 14 = .ok (.aload_n 0, 1) := by decide +kernel
theorem dX4_readSleeper_15 : decode cX4_readSleeper 15 = .ok (.iconst 3, 1) := by decide +kernel
theorem dX4_readSleeper_16 : decode cX4_readSleeper 16 = .ok (.iload_n 1, 1) := by decide +kernel
theorem dX4_readSleeper_17 : decode cX4_readSleeper 17 = .ok (.invokevirtual 62, 3) := by decide +kernel
theorem dX4_readSleeper_20 : decode cX4_readSleeper 20 = .ok (.return_, 1) := by decide +kernel
theorem dX4_readSleeper_21 : decode cX4_readSleeper 21 = .ok (.aload_n 0, 1) := by decide +kernel
theorem dX4_readSleeper_22 : decode cX4_readSleeper 22 = .ok (.getfield 18, 3) := by decide +kernel
theorem dX4_readSleeper_25 : decode cX4_readSleeper 25 = .ok (.getfield 92, 3) := by decide +kernel
theorem dX4_readSleeper_28 : decode cX4_readSleeper 28 = .ok (.iload_n 2, 1) := by decide +kernel
theorem dX4_readSleeper_29 : decode cX4_readSleeper 29 = .ok (.aload_n 0, 1) := by decide +kernel
theorem dX4_readSleeper_30 : decode cX4_readSleeper 30 = .ok (.iconst 0, 1) := by decide +kernel
theorem dX4_readSleeper_31 : decode cX4_readSleeper 31 = .ok (.aload_n 0, 1) := by decide +kernel
theorem dX4_readSleeper_32 : decode cX4_readSleeper 32 = .ok (.getfield 18, 3) := by decide +kernel
theorem dX4_readSleeper_35 : decode cX4_readSleeper 35 = .ok (.getfield 29, 3) := by decide +kernel
theorem dX4_readSleeper_38 : decode cX4_readSleeper 38 = .ok (.iconst 1, 1) := by decide +kernel
theorem dX4_readSleeper_39 : decode cX4_readSleeper 39 = .ok (.isub, 1) := by decide +kernel
theorem dX4_readSleeper_40 : decode cX4_readSleeper 40 = .ok (.invokevirtual 79, 3) := by decide +kernel
theorem dX4_readSleeper_43 : decode cX4_readSleeper 43 = .ok (.iastore, 1) := by decide +kernel
theorem dX4_readSleeper_44 : decode cX4_readSleeper 44 = .ok (.aload_n 0, 1) := by decide +kernel
theorem dX4_readSleeper_45 : decode cX4_readSleeper 45 = .ok (.getfield 18, 3) := by decide +kernel
theorem dX4_readSleeper_48 : decode cX4_readSleeper 48 = .ok (.getfield 95, 3) := by decide +kernel
theorem dX4_readSleeper_51 : decode cX4_readSleeper 51 = .ok (.iload_n 2, 1) := by decide +kernel
theorem dX4_readSleeper_52 : decode cX4_readSleeper 52 = .ok (.aload_n 0, 1) := by decide +kernel
theorem dX4_readSleeper_53 : decode cX4_readSleeper 53 = .ok (.bipush 60, 2) := by decide +kernel
theorem dX4_readSleeper_55 : decode cX4_readSleeper 55 = .ok (.sipush 600, 3) := by decide +kernel
theorem dX4_readSleeper_58 : decode cX4_readSleeper 58 = .ok (.invokevirtual 79, 3) := by decide +kernel
theorem dX4_readSleeper_61 : decode cX4_readSleeper 61 = .ok (.iastore, 1) := by decide +kernel
theorem dX4_readSleeper_62 : decode cX4_readSleeper 62 = .ok (.aload_n 0, 1) := by decide +kernel
theorem dX4_readSleeper_63 : decode cX4_readSleeper 63 = .ok (.getfield 18, 3) := by decide +kernel
theorem dX4_readSleeper_66 : decode cX4_readSleeper 66 = .ok (.getfield 98, 3) := by decide +kernel
theorem dX4_readSleeper_69 : decode cX4_readSleeper 69 = .ok (.iload_n 2, 1) := by decide +kernel
theorem dX4_readSleeper_70 : decode cX4_readSleeper 70 = .ok (.aload_n 0, 1) := by decide +kernel
theorem dX4_readSleeper_71 : decode cX4_readSleeper 71 = .ok (.iconst 0, 1) := by decide +kernel
theorem dX4_readSleeper_72 : decode cX4_readSleeper 72 = .ok (.bipush 59, 2) := by decide +kernel
theorem dX4_readSleeper_74 : decode cX4_readSleeper 74 = .ok (.invokevirtual 79, 3) := by decide +kernel
theorem dX4_readSleeper_77 : decode cX4_readSleeper 77 = .ok (.iastore, 1) := by decide +kernel
theorem dX4_readSleeper_78 : decode cX4_readSleeper 78 = .ok (.aload_n 0, 1) := by decide +kernel
theorem dX4_readSleeper_79 : decode cX4_readSleeper 79 = .ok (.getfield 18, 3) := by decide +kernel
theorem dX4_readSleeper_82 : decode cX4_readSleeper 82 = .ok (.getfield 101, 3) := by decide +kernel
theorem dX4_readSleeper_85 : decode cX4_readSleeper 85 = .ok (.iload_n 2, 1) := by decide +kernel
theorem dX4_readSleeper_86 : decode cX4_readSleeper 86 = .ok (.aload_n 0, 1) := by decide +kernel
theorem dX4_readSleeper_87 : decode cX4_readSleeper 87 = .ok (.iconst 0, 1) := by decide +kernel
theorem dX4_readSleeper_88 : decode cX4_readSleeper 88 = .ok (.bipush 9, 2) := by decide +kernel
theorem dX4_readSleeper_90 : decode cX4_readSleeper 90 = .ok (.invokevirtual 79, 3) := by decide +kernel
theorem dX4_readSleeper_93 : decode cX4_readSleeper 93 = .ok (.iastore, 1) := by decide +kernel
theorem dX4_readSleeper_94 : decode cX4_readSleeper 94 = .ok (.aload_n 0, 1) := by decide +kernel
theorem dX4_readSleeper_95 : decode cX4_readSleeper 95 = .ok (.invokevirtual 89, 3) := by decide +kernel
theorem dX4_readSleeper_98 : decode cX4_readSleeper 98 = .ok (.aload_n 0, 1) := by decide +kernel
theorem dX4_readSleeper_99 : decode cX4_readSleeper 99 = .ok (.getfield 18, 3) := by decide +kernel
theorem dX4_readSleeper_102 : decode cX4_readSleeper 102 = .ok (.iload_n 2, 1) := by decide +kernel
theorem dX4_readSleeper_103 : decode cX4_readSleeper 103 = .ok (.iconst 1, 1) := by decide +kernel
theorem dX4_readSleeper_104 : decode cX4_readSleeper 104 = .ok (.iadd, 1) := by decide +kernel
theorem dX4_readSleeper_105 : decode cX4_readSleeper 105 = .ok (.putfield 32, 3) := by decide +kernel
theorem dX4_readSleeper_108 : decode cX4_readSleeper 108 = .ok (.return_, 1) := by decide +kernel
theorem dX4_readNumber_0 : decode cX4_readNumber 0 = .ok (.aload_n 0, 1) := by decide +kernel
theorem dX4_readNumber_1 : decode cX4_readNumber 1 = .ok (.getfield 38, 3) := by decide +kernel
theorem dX4_readNumber_4 : decode cX4_readNumber 4 = .ok (.ifCond .eq 5, 3) := by decide +kernel
theorem dX4_readNumber_7 : decode cX4_readNumber 7 = .ok (.iconst 0, 1) := by decide +kernel
theorem dX4_readNumber_8 : decode cX4_readNumber 8 = .ok (.ireturn, 1) := by decide +kernel
theorem dX4_readNumber_9 : decode cX4_readNumber 9 = .ok (.aload_n 0, 1) := by decide +kernel
theorem dX4_readNumber_10 : decode cX4_readNumber 10 = .ok (.invokevirtual 41, 3) := by decide +kernel
theorem dX4_readNumber_13 : decode cX4_readNumber 13 = .ok (.aload_n 0, 1) := by decide +kernel
theorem dX4_readNumber_14 : decode cX4_readNumber 14 = .ok (.getfield 35, 3) := by decide +kernel
theorem dX4_readNumber_17 : decode cX4_readNumber 17 = .ok (.istore_n 3, 1) := by decide +kernel
theorem dX4_readNumber_18 : decode cX4_readNumber 18 = .ok (.iconst 0, 1) := by decide +kernel
theorem dX4_readNumber_19 : decode cX4_readNumber 19 = .ok (.istore 4, 2) := by decide +kernel
theorem dX4_readNumber_21 : decode cX4_readNumber 21 = .ok (.aload_n 0, 1) := by decide +kernel
theorem dX4_readNumber_22 : decode cX4_readNumber 22 = .ok (.getfield 35, 3) := by decide +kernel
theorem dX4_readNumber_25 : decode cX4_readNumber 25 = .ok (.aload_n 0, 1) := by decide +kernel
theorem dX4_readNumber_26 : decode cX4_readNumber 26 = .ok (.getfield 26, 3) := by decide +kernel
theorem dX4_readNumber_29 : decode cX4_readNumber 29 = .ok (.if_icmp .ge 74, 3) := by decide +kernel
theorem dX4_readNumber_32 : decode cX4_readNumber 32 = .ok (.aload_n 0, 1) := by decide +kernel
theorem dX4_readNumber_33 : decode cX4_readNumber 33 = .ok (.getfield 9, 3) := by decide +kernel
theorem dX4_readNumber_36 : decode cX4_readNumber 36 = .ok (.aload_n 0, 1) := by decide +kernel
theorem dX4_readNumber_37 : decode cX4_readNumber 37 = .ok (.getfield 35, 3) := by decide +kernel
theorem dX4_readNumber_40 : decode cX4_readNumber 40 = .ok (.baload, 1) := by decide +kernel
theorem dX4_readNumber_41 : decode cX4_readNumber 41 = .ok (.bipush 48, 2) := by decide +kernel
theorem dX4_readNumber_43 : decode cX4_readNumber 43 = .ok (.if_icmp .lt 60, 3) := by decide +kernel
theorem dX4_readNumber_46 : decode cX4_readNumber 46 = .ok (.aload_n 0, 1) := by decide +kernel
theorem dX4_readNumber_47 : decode cX4_readNumber 47 = .ok (.getfield 9, 3) := by decide +kernel
theorem dX4_readNumber_50 : decode cX4_readNumber 50 = .ok (.aload_n 0, 1) := by decide +kernel
theorem dX4_readNumber_51 : decode cX4_readNumber 51 = .ok (.getfield 35, 3) := by decide +kernel
theorem dX4_readNumber_54 : decode cX4_readNumber 54 = .ok (.baload, 1) := by decide +kernel
theorem dX4_readNumber_55 : decode cX4_readNumber 55 = .ok (.bipush 57, 2) := by decide +kernel
theorem dX4_readNumber_57 : decode cX4_readNumber 57 = .ok (.if_icmp .gt 46, 3) := by decide +kernel
theorem dX4_readNumber_60 : decode cX4_readNumber 60 = .ok (.aload_n 0, 1) := by decide +kernel
theorem dX4_readNumber_61 : decode cX4_readNumber 61 = .ok (.getfield 35, 3) := by decide +kernel
theorem dX4_readNumber_64 : decode cX4_readNumber 64 = .ok (.iload_n 3, 1) := by decide +kernel
theorem dX4_readNumber_65 : decode cX4_readNumber 65 = .ok (.isub, 1) := by decide +kernel
theorem dX4_readNumber_66 : decode cX4_readNumber 66 = .ok (.iconst 3, 1) := by decide +kernel
theorem dX4_readNumber_67 : decode cX4_readNumber 67 = .ok (.if_icmp .ge 23, 3) := by decide +kernel
theorem dX4_readNumber_70 : decode cX4_readNumber 70 = .ok (.iload 4, 2) := by decide +kernel
theorem dX4_readNumber_72 : decode cX4_readNumber 72 = .ok (.bipush 10, 2) := by decide +kernel
theorem dX4_readNumber_74 : decode cX4_readNumber 74 = .ok (.imul, 1) := by decide +kernel
theorem dX4_readNumber_75 : decode cX4_readNumber 75 = .ok (.aload_n 0, 1) := by decide +kernel
theorem dX4_readNumber_76 : decode cX4_readNumber 76 = .ok (.getfield 9, 3) := by decide +kernel
theorem dX4_readNumber_79 : decode cX4_readNumber 79 = .ok (.aload_n 0, 1) := by decide +kernel
theorem dX4_readNumber_80 : decode cX4_readNumber 80 = .ok (.getfield 35, 3) := by decide +kernel
theorem dX4_readNumber_83 : decode cX4_readNumber 83 = .ok (.baload, 1) := by decide +kernel
theorem dX4_readNumber_84 : decode cX4_readNumber 84 = .ok (.bipush 48, 2) := by decide +kernel
theorem dX4_readNumber_86 : decode cX4_readNumber 86 = .ok (.isub, 1) := by decide +kernel
theorem dX4_readNumber_87 : decode cX4_readNumber 87 = .ok (.iadd, 1) := by decide +kernel
theorem dX4_readNumber_88 : decode cX4_readNumber 88 = .ok (.istore 4, 2) := by decide +kernel
theorem dX4_readNumber_90 : decode cX4_readNumber 90 = .ok (.aload_n 0, 1) := by decide +kernel
theorem dX4_readNumber_91 : decode cX4_readNumber 91 = .ok (.dup, 1) := by decide +kernel
theorem dX4_readNumber_92 : decode cX4_readNumber 92 = .ok (.getfield 35, 3) := by decide +kernel
theorem dX4_readNumber_95 : decode cX4_readNumber 95 = .ok (.iconst 1, 1) := by decide +kernel
theorem dX4_readNumber_96 : decode cX4_readNumber 96 = .ok (.iadd, 1) := by decide +kernel
theorem dX4_readNumber_97 : decode cX4_readNumber 97 = .ok (.putfield 35, 3) := by decide +kernel
theorem dX4_readNumber_100 : decode cX4_readNumber 100 = .ok (.goto (-79), 3) := by decide +kernel
theorem dX4_readNumber_103 : decode cX4_readNumber 103 = .ok (.aload_n 0, 1) := by decide +kernel
theorem dX4_readNumber_104 : decode cX4_readNumber 104 = .ok (.getfield 35, 3) := by decide +kernel
theorem dX4_readNumber_107 : decode cX4_readNumber 107 = .ok (.iload_n 3, 1) := by decide +kernel
theorem dX4_readNumber_108 : decode cX4_readNumber 108 = .ok (.if_icmp .ne 12, 3) := by decide +kernel
theorem dX4_readNumber_111 : decode cX4_readNumber 111 = .ok (.aload_n 0, 1) := by decide +kernel
theorem dX4_readNumber_112 : decode cX4_readNumber 112 = .ok (.iconst 1, 1) := by decide +kernel
theorem dX4_readNumber_113 : decode cX4_readNumber 113 = .ok (.iload_n 3, 1) := by decide +kernel
theorem dX4_readNumber_114 : decode cX4_readNumber 114 = .ok (.invokevirtual 62, 3) := by decide +kernel
theorem dX4_readNumber_117 : decode cX4_readNumber 117 = .ok (.goto 31, 3) := by decide +kernel
theorem dX4_readNumber_120 : decode cX4_readNumber 120 = .ok (.aload_n 0, 1) := by decide +kernel
theorem dX4_readNumber_121 : decode cX4_readNumber 121 = .ok (.getfield 35, 3) := by decide +kernel
theorem dX4_readNumber_124 : decode cX4_readNumber 124 = .ok (.iload_n 3, 1) := by decide +kernel
theorem dX4_readNumber_125 : decode cX4_readNumber 125 = .ok (.isub, 1) := by decide +kernel
theorem dX4_readNumber_126 : decode cX4_readNumber 126 = .ok (.iconst 3, 1) := by decide +kernel
theorem dX4_readNumber_127 : decode cX4_readNumber 127 = .ok (.if_icmp .gt 15, 3) := by decide +kernel
theorem dX4_readNumber_130 : decode cX4_readNumber 130 = .ok (.iload 4, 2) := by decide +kernel
theorem dX4_readNumber_132 : decode cX4_readNumber 132 = .ok (.iload_n 1, 1) := by decide +kernel
theorem dX4_readNumber_133 : decode cX4_readNumber 133 = .ok (.if_icmp .lt 9, 3) := by decide +kernel
theorem dX4_readNumber_136 : decode cX4_readNumber 136 = .ok (.iload 4, 2) := by decide +kernel
theorem dX4_readNumber_138 : decode cX4_readNumber 138 = .ok (.iload_n 2, 1) := by decide +kernel
theorem dX4_readNumber_139 : decode cX4_readNumber 139 = .ok (.if_icmp .le 9, 3) := by decide +kernel
theorem dX4_readNumber_142 : decode cX4_readNumber 142 = .ok (.aload_n 0, 1) := by decide +kernel
theorem dX4_readNumber_143 : decode cX4_readNumber 143 = .ok (.iconst 2, 1) := by decide +kernel
theorem dX4_readNumber_144 : decode cX4_readNumber 144 = .ok (.iload_n 3, 1) := by decide +kernel
theorem dX4_readNumber_145 : decode cX4_readNumber 145 = .ok (.invokevirtual 62, 3) := by decide +kernel
theorem dX4_readNumber_148 : decode cX4_readNumber 148 = .ok (.iload 4, 2) := by decide +kernel
theorem dX4_readNumber_150 : decode cX4_readNumber 150 = .ok (.ireturn, 1) := by decide +kernel
theorem dX4_readEnd_0 : decode cX4_readEnd 0 = .ok (.aload_n 0, 1) := by decide +kernel
theorem dX4_readEnd_1 : decode cX4_readEnd 1 = .ok (.getfield 38, 3) := by decide +kernel
theorem dX4_readEnd_4 : decode cX4_readEnd 4 = .ok (.ifCond .eq 4, 3) := by decide +kernel
theorem dX4_readEnd_7 : decode cX4_readEnd 7 = .ok (.return_, 1) := by decide +kernel
theorem dX4_readEnd_8 : decode cX4_readEnd 8 = .ok (.aload_n 0, 1) := by decide +kernel
theorem dX4_readEnd_9 : decode cX4_readEnd 9 = .ok (.invokevirtual 41, 3) := by decide +kernel
theorem dX4_readEnd_12 : decode cX4_readEnd 12 = .ok (.aload_n 0, 1) := by decide +kernel
theorem dX4_readEnd_13 : decode cX4_readEnd 13 = .ok (.getfield 35, 3) := by decide +kernel
theorem dX4_readEnd_16 : decode cX4_readEnd 16 = .ok (.aload_n 0, 1) := by decide +kernel
theorem dX4_readEnd_17 : decode cX4_readEnd 17 = .ok (.getfield 26, 3) := by decide +kernel
theorem dX4_readEnd_20 : decode cX4_readEnd 20 = .ok (.if_icmp .ge 30, 3) := by decide +kernel
theorem dX4_readEnd_23 : decode cX4_readEnd 23 = .ok (.aload_n 0, 1) := by decide +kernel
theorem dX4_readEnd_24 : decode cX4_readEnd 24 = .ok (.getfield 9, 3) := by decide +kernel
theorem dX4_readEnd_27 : decode cX4_readEnd 27 = .ok (.aload_n 0, 1) := by decide +kernel
theorem dX4_readEnd_28 : decode cX4_readEnd 28 = .ok (.getfield 35, 3) := by decide +kernel
theorem dX4_readEnd_31 : decode cX4_readEnd 31 = .ok (.baload, 1) := by decide +kernel
theorem dX4_readEnd_32 : decode cX4_readEnd 32 = .ok (.bipush 59, 2) := by decide +kernel
theorem dX4_readEnd_34 : decode cX4_readEnd 34 = .ok (.if_icmp .ne 16, 3) := by decide +kernel
theorem dX4_readEnd_37 : decode cX4_readEnd 37 = .ok (.aload_n 0, 1) := by decide +kernel
theorem dX4_readEnd_38 : decode cX4_readEnd 38 = .ok (.dup, 1) := by decide +kernel
theorem dX4_readEnd_39 : decode cX4_readEnd 39 = .ok (.getfield 35, 3) := by decide +kernel
theorem dX4_readEnd_42 : decode cX4_readEnd 42 = .ok (.iconst 1, 1) := by decide +kernel
theorem dX4_readEnd_43 : decode cX4_readEnd 43 = .ok (.iadd, 1) := by decide +kernel
theorem dX4_readEnd_44 : decode cX4_readEnd 44 = .ok (.putfield 35, 3) := by decide +kernel
theorem dX4_readEnd_47 : decode cX4_readEnd 47 = .ok (.goto 12, 3) := by decide +kernel
theorem dX4_readEnd_50 : decode cX4_readEnd 50 = .ok (.aload_n 0, 1) := by decide +kernel
theorem dX4_readEnd_51 : decode cX4_readEnd 51 = .ok (.iconst 1, 1) := by decide +kernel
theorem dX4_readEnd_52 : decode cX4_readEnd 52 = .ok (.aload_n 0, 1) := by decide +kernel
theorem dX4_readEnd_53 : decode cX4_readEnd 53 = .ok (.getfield 35, 3) := by decide +kernel
theorem dX4_readEnd_56 : decode cX4_readEnd 56 = .ok (.invokevirtual 62, 3) := by decide +kernel
theorem dX4_readEnd_59 : decode cX4_readEnd 59 = .ok (.return_, 1) := by decide +kernel
theorem dX4_skipBlanks_0 : decode cX4_skipBlanks 0 = .ok (.aload_n 0, 1) := by decide +kernel
theorem dX4_skipBlanks_1 : decode cX4_skipBlanks 1 = .ok (.getfield 35, 3) := by decide +kernel
theorem dX4_skipBlanks_4 : decode cX4_skipBlanks 4 = .ok (.aload_n 0, 1) := by decide +kernel
theorem dX4_skipBlanks_5 : decode cX4_skipBlanks 5 = .ok (.getfield 26, 3) := by decide +kernel
theorem dX4_skipBlanks_8 : decode cX4_skipBlanks 8 = .ok (.if_icmp .ge 30, 3) := by decide +kernel
theorem dX4_skipBlanks_11 : decode cX4_skipBlanks 11 = .ok (.aload_n 0, 1) := by decide +kernel
theorem dX4_skipBlanks_12 : decode cX4_skipBlanks 12 = .ok (.getfield 9, 3) := by decide +kernel
theorem dX4_skipBlanks_15 : decode cX4_skipBlanks 15 = .ok (.aload_n 0, 1) := by decide +kernel
theorem dX4_skipBlanks_16 : decode cX4_skipBlanks 16 = .ok (.getfield 35, 3) := by decide +kernel
theorem dX4_skipBlanks_19 : decode cX4_skipBlanks 19 = .ok (.baload, 1) := by decide +kernel
theorem dX4_skipBlanks_20 : decode cX4_skipBlanks 20 = .ok (.bipush 32, 2) := by decide +kernel
theorem dX4_skipBlanks_22 : decode cX4_skipBlanks 22 = .ok (.if_icmp .ne 16, 3) := by decide +kernel
theorem dX4_skipBlanks_25 : decode cX4_skipBlanks 25 = .ok (.aload_n 0, 1) := by decide +kernel
theorem dX4_skipBlanks_26 : decode cX4_skipBlanks 26 = .ok (.dup, 1) := by decide +kernel
theorem dX4_skipBlanks_27 : decode cX4_skipBlanks 27 = .ok (.getfield 35, 3) := by decide +kernel
theorem dX4_skipBlanks_30 : decode cX4_skipBlanks 30 = .ok (.iconst 1, 1) := by decide +kernel
theorem dX4_skipBlanks_31 : decode cX4_skipBlanks 31 = .ok (.iadd, 1) := by decide +kernel
theorem dX4_skipBlanks_32 : decode cX4_skipBlanks 32 = .ok (.putfield 35, 3) := by decide +kernel
theorem dX4_skipBlanks_35 : decode cX4_skipBlanks 35 = .ok (.goto (-35), 3) := by decide +kernel
theorem dX4_skipBlanks_38 : decode cX4_skipBlanks 38 = .ok (.return_, 1) := by decide +kernel
theorem dX4_note_0 : decode cX4_note 0 = .ok (.aload_n 0, 1) := by decide +kernel
theorem dX4_note_1 : decode cX4_note 1 = .ok (.iload_n 1, 1) := by decide +kernel
theorem dX4_note_2 : decode cX4_note 2 = .ok (.putfield 38, 3) := by decide +kernel
theorem dX4_note_5 : decode cX4_note 5 = .ok (.aload_n 0, 1) := by decide +kernel
theorem dX4_note_6 : decode cX4_note 6 = .ok (.iload_n 2, 1) := by decide +kernel
theorem dX4_note_7 : decode cX4_note 7 = .ok (.putfield 22, 3) := by decide +kernel
theorem dX4_note_10 : decode cX4_note 10 = .ok (.return_, 1) := by decide +kernel
theorem dX5_init_0 : decode cX5_init 0 = .ok (.aload_n 0, 1) := by decide +kernel
theorem dX5_init_1 : decode cX5_init 1 = .ok (.invokespecial 3, 3) := by decide +kernel
theorem dX5_init_4 : decode cX5_init 4 = .ok (.aload_n 0, 1) := by decide +kernel
theorem dX5_init_5 : decode cX5_init 5 = .ok (.iconst 5, 1) := by decide +kernel
theorem dX5_init_6 : decode cX5_init 6 = .ok (.newarray .int, 2) := by decide +kernel
theorem dX5_init_8 : decode cX5_init 8 = .ok (.putfield 9, 3) := by decide +kernel
theorem dX5_init_11 : decode cX5_init 11 = .ok (.aload_n 0, 1) := by decide +kernel
theorem dX5_init_12 : decode cX5_init 12 = .ok (.iconst 5, 1) := by decide +kernel
theorem dX5_init_13 : decode cX5_init 13 = .ok (.newarray .int, 2) := by decide +kernel
theorem dX5_init_15 : decode cX5_init 15 = .ok (.putfield 15, 3) := by decide +kernel
theorem dX5_init_18 : decode cX5_init 18 = .ok (.aload_n 0, 1) := by decide +kernel
theorem dX5_init_19 : decode cX5_init 19 = .ok (.iconst 5, 1) := by decide +kernel
theorem dX5_init_20 : decode cX5_init 20 = .ok (.newarray .int, 2) := by decide +kernel
theorem dX5_init_22 : decode cX5_init 22 = .ok (.putfield 18, 3) := by decide +kernel
theorem dX5_init_25 : decode cX5_init 25 = .ok (.aload_n 0, 1) := by decide +kernel
theorem dX5_init_26 : decode cX5_init 26 = .ok (.bipush 8, 2) := by decide +kernel
theorem dX5_init_28 : decode cX5_init 28 = .ok (.newarray .int, 2) := by decide +kernel
theorem dX5_init_30 : decode cX5_init 30 = .ok (.putfield 21, 3) := by decide +kernel
theorem dX5_init_33 : decode cX5_init 33 = .ok (.aload_n 0, 1) := by decide +kernel
theorem dX5_init_34 : decode cX5_init 34 = .ok (.bipush 8, 2) := by decide +kernel
theorem dX5_init_36 : decode cX5_init 36 = .ok (.newarray .int, 2) := by decide +kernel
theorem dX5_init_38 : decode cX5_init 38 = .ok (.putfield 24, 3) := by decide +kernel
theorem dX5_init_41 : decode cX5_init 41 = .ok (.aload_n 0, 1) := by decide +kernel
theorem dX5_init_42 : decode cX5_init 42 = .ok (.bipush 8, 2) := by decide +kernel
theorem dX5_init_44 : decode cX5_init 44 = .ok (.newarray .int, 2) := by decide +kernel
theorem dX5_init_46 : decode cX5_init 46 = .ok (.putfield 27, 3) := by decide +kernel
theorem dX5_init_49 : decode cX5_init 49 = .ok (.aload_n 0, 1) := by decide +kernel
theorem dX5_init_50 : decode cX5_init 50 = .ok (.bipush 8, 2) := by decide +kernel
theorem dX5_init_52 : decode cX5_init 52 = .ok (.newarray .int, 2) := by decide +kernel
theorem dX5_init_54 : decode cX5_init 54 = .ok (.putfield 30, 3) := by decide +kernel
theorem dX5_init_57 : decode cX5_init 57 = .ok (.return_, 1) := by decide +kernel
theorem dX5_hasHouse_0 : decode cX5_hasHouse 0 = .ok (.iload_n 1, 1) := by decide +kernel
theorem dX5_hasHouse_1 : decode cX5_hasHouse 1 = .ok (.ifCond .lt 15, 3) := by decide +kernel
theorem dX5_hasHouse_4 : decode cX5_hasHouse 4 = .ok (.iload_n 1, 1) := by decide +kernel
theorem dX5_hasHouse_5 : decode cX5_hasHouse 5 = .ok (.aload_n 0, 1) := by decide +kernel
theorem dX5_hasHouse_6 : decode cX5_hasHouse 6 = .ok (.getfield 33, 3) := by decide +kernel
