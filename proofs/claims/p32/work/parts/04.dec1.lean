theorem dX0_init_0 : decode cX0_init 0 = .ok (.aload_n 0, 1) := by decide +kernel
theorem dX0_init_1 : decode cX0_init 1 = .ok (.invokespecial 3, 3) := by decide +kernel
theorem dX0_init_4 : decode cX0_init 4 = .ok (.aload_n 0, 1) := by decide +kernel
theorem dX0_init_5 : decode cX0_init 5 = .ok (.new 9, 3) := by decide +kernel
theorem dX0_init_8 : decode cX0_init 8 = .ok (.dup, 1) := by decide +kernel
theorem dX0_init_9 : decode cX0_init 9 = .ok (.invokespecial 11, 3) := by decide +kernel
theorem dX0_init_12 : decode cX0_init 12 = .ok (.putfield 12, 3) := by decide +kernel
theorem dX0_init_15 : decode cX0_init 15 = .ok (.aload_n 0, 1) := by decide +kernel
theorem dX0_init_16 : decode cX0_init 16 = .ok (.new 18, 3) := by decide +kernel
theorem dX0_init_19 : decode cX0_init 19 = .ok (.dup, 1) := by decide +kernel
theorem dX0_init_20 : decode cX0_init 20 = .ok (.invokespecial 20, 3) := by decide +kernel
theorem dX0_init_23 : decode cX0_init 23 = .ok (.putfield 21, 3) := by decide +kernel
theorem dX0_init_26 : decode cX0_init 26 = .ok (.aload_n 0, 1) := by decide +kernel
theorem dX0_init_27 : decode cX0_init 27 = .ok (.new 25, 3) := by decide +kernel
theorem dX0_init_30 : decode cX0_init 30 = .ok (.dup, 1) := by decide +kernel
theorem dX0_init_31 : decode cX0_init 31 = .ok (.invokespecial 27, 3) := by decide +kernel
theorem dX0_init_34 : decode cX0_init 34 = .ok (.putfield 28, 3) := by decide +kernel
theorem dX0_init_37 : decode cX0_init 37 = .ok (.aload_n 0, 1) := by decide +kernel
theorem dX0_init_38 : decode cX0_init 38 = .ok (.iconst 1, 1) := by decide +kernel
theorem dX0_init_39 : decode cX0_init 39 = .ok (.putfield 32, 3) := by decide +kernel
theorem dX0_init_42 : decode cX0_init 42 = .ok (.aload_n 0, 1) := by decide +kernel
theorem dX0_init_43 : decode cX0_init 43 = .ok (.bipush 16, 2) := by decide +kernel
theorem dX0_init_45 : decode cX0_init 45 = .ok (.newarray .int, 2) := by decide +kernel
theorem dX0_init_47 : decode cX0_init 47 = .ok (.putfield 36, 3) := by decide +kernel
theorem dX0_init_50 : decode cX0_init 50 = .ok (.aload_n 0, 1) := by decide +kernel
theorem dX0_init_51 : decode cX0_init 51 = .ok (.bipush 16, 2) := by decide +kernel
theorem dX0_init_53 : decode cX0_init 53 = .ok (.newarray .int, 2) := by decide +kernel
theorem dX0_init_55 : decode cX0_init 55 = .ok (.putfield 40, 3) := by decide +kernel
theorem dX0_init_58 : decode cX0_init 58 = .ok (.aload_n 0, 1) := by decide +kernel
theorem dX0_init_59 : decode cX0_init 59 = .ok (.bipush 16, 2) := by decide +kernel
theorem dX0_init_61 : decode cX0_init 61 = .ok (.newarray .int, 2) := by decide +kernel
theorem dX0_init_63 : decode cX0_init 63 = .ok (.putfield 43, 3) := by decide +kernel
theorem dX0_init_66 : decode cX0_init 66 = .ok (.aload_n 0, 1) := by decide +kernel
theorem dX0_init_67 : decode cX0_init 67 = .ok (.getfield 36, 3) := by decide +kernel
theorem dX0_init_70 : decode cX0_init 70 = .ok (.iconst (-1), 1) := by decide +kernel
theorem dX0_init_71 : decode cX0_init 71 = .ok (.invokestatic 46, 3) := by decide +kernel
theorem dX0_init_74 : decode cX0_init 74 = .ok (.return_, 1) := by decide +kernel
theorem dX0_take_0 : decode cX0_take 0 = .ok (.aload_n 0, 1) := by decide +kernel
theorem dX0_take_1 : decode cX0_take 1 = .ok (.getfield 12, 3) := by decide +kernel
theorem dX0_take_4 : decode cX0_take 4 = .ok (.aload_n 1, 1) := by decide +kernel
theorem dX0_take_5 : decode cX0_take 5 = .ok (.getfield 12, 3) := by decide +kernel
theorem dX0_take_8 : decode cX0_take 8 = .ok (.invokevirtual 52, 3) := by decide +kernel
theorem dX0_take_11 : decode cX0_take 11 = .ok (.aload_n 0, 1) := by decide +kernel
theorem dX0_take_12 : decode cX0_take 12 = .ok (.getfield 21, 3) := by decide +kernel
theorem dX0_take_15 : decode cX0_take 15 = .ok (.aload_n 1, 1) := by decide +kernel
theorem dX0_take_16 : decode cX0_take 16 = .ok (.getfield 21, 3) := by decide +kernel
theorem dX0_take_19 : decode cX0_take 19 = .ok (.invokevirtual 56, 3) := by decide +kernel
theorem dX0_take_22 : decode cX0_take 22 = .ok (.aload_n 0, 1) := by decide +kernel
theorem dX0_take_23 : decode cX0_take 23 = .ok (.getfield 28, 3) := by decide +kernel
theorem dX0_take_26 : decode cX0_take 26 = .ok (.aload_n 1, 1) := by decide +kernel
theorem dX0_take_27 : decode cX0_take 27 = .ok (.getfield 28, 3) := by decide +kernel
theorem dX0_take_30 : decode cX0_take 30 = .ok (.invokevirtual 59, 3) := by decide +kernel
theorem dX0_take_33 : decode cX0_take 33 = .ok (.aload_n 0, 1) := by decide +kernel
theorem dX0_take_34 : decode cX0_take 34 = .ok (.aload_n 1, 1) := by decide +kernel
theorem dX0_take_35 : decode cX0_take 35 = .ok (.getfield 62, 3) := by decide +kernel
theorem dX0_take_38 : decode cX0_take 38 = .ok (.putfield 62, 3) := by decide +kernel
theorem dX0_take_41 : decode cX0_take 41 = .ok (.aload_n 0, 1) := by decide +kernel
theorem dX0_take_42 : decode cX0_take 42 = .ok (.aload_n 1, 1) := by decide +kernel
theorem dX0_take_43 : decode cX0_take 43 = .ok (.getfield 65, 3) := by decide +kernel
theorem dX0_take_46 : decode cX0_take 46 = .ok (.putfield 65, 3) := by decide +kernel
theorem dX0_take_49 : decode cX0_take 49 = .ok (.aload_n 0, 1) := by decide +kernel
theorem dX0_take_50 : decode cX0_take 50 = .ok (.aload_n 1, 1) := by decide +kernel
theorem dX0_take_51 : decode cX0_take 51 = .ok (.getfield 68, 3) := by decide +kernel
theorem dX0_take_54 : decode cX0_take 54 = .ok (.putfield 68, 3) := by decide +kernel
theorem dX0_take_57 : decode cX0_take 57 = .ok (.aload_n 0, 1) := by decide +kernel
theorem dX0_take_58 : decode cX0_take 58 = .ok (.aload_n 1, 1) := by decide +kernel
theorem dX0_take_59 : decode cX0_take 59 = .ok (.getfield 71, 3) := by decide +kernel
theorem dX0_take_62 : decode cX0_take 62 = .ok (.putfield 71, 3) := by decide +kernel
theorem dX0_take_65 : decode cX0_take 65 = .ok (.aload_n 0, 1) := by decide +kernel
theorem dX0_take_66 : decode cX0_take 66 = .ok (.aload_n 1, 1) := by decide +kernel
theorem dX0_take_67 : decode cX0_take 67 = .ok (.getfield 32, 3) := by decide +kernel
theorem dX0_take_70 : decode cX0_take 70 = .ok (.putfield 32, 3) := by decide +kernel
theorem dX0_take_73 : decode cX0_take 73 = .ok (.aload_n 1, 1) := by decide +kernel
theorem dX0_take_74 : decode cX0_take 74 = .ok (.getfield 36, 3) := by decide +kernel
theorem dX0_take_77 : decode cX0_take 77 = .ok (.iconst 0, 1) := by decide +kernel
theorem dX0_take_78 : decode cX0_take 78 = .ok (.aload_n 0, 1) := by decide +kernel
theorem dX0_take_79 : decode cX0_take 79 = .ok (.getfield 36, 3) := by decide +kernel
theorem dX0_take_82 : decode cX0_take 82 = .ok (.iconst 0, 1) := by decide +kernel
theorem dX0_take_83 : decode cX0_take 83 = .ok (.bipush 16, 2) := by decide +kernel
theorem dX0_take_85 : decode cX0_take 85 = .ok (.invokestatic 74, 3) := by decide +kernel
theorem dX0_take_88 : decode cX0_take 88 = .ok (.aload_n 1, 1) := by decide +kernel
theorem dX0_take_89 : decode cX0_take 89 = .ok (.getfield 40, 3) := by decide +kernel
theorem dX0_take_92 : decode cX0_take 92 = .ok (.iconst 0, 1) := by decide +kernel
theorem dX0_take_93 : decode cX0_take 93 = .ok (.aload_n 0, 1) := by decide +kernel
theorem dX0_take_94 : decode cX0_take 94 = .ok (.getfield 40, 3) := by decide +kernel
theorem dX0_take_97 : decode cX0_take 97 = .ok (.iconst 0, 1) := by decide +kernel
theorem dX0_take_98 : decode cX0_take 98 = .ok (.bipush 16, 2) := by decide +kernel
theorem dX0_take_100 : decode cX0_take 100 = .ok (.invokestatic 74, 3) := by decide +kernel
theorem dX0_take_103 : decode cX0_take 103 = .ok (.aload_n 1, 1) := by decide +kernel
theorem dX0_take_104 : decode cX0_take 104 = .ok (.getfield 43, 3) := by decide +kernel
theorem dX0_take_107 : decode cX0_take 107 = .ok (.iconst 0, 1) := by decide +kernel
theorem dX0_take_108 : decode cX0_take 108 = .ok (.aload_n 0, 1) := by decide +kernel
theorem dX0_take_109 : decode cX0_take 109 = .ok (.getfield 43, 3) := by decide +kernel
theorem dX0_take_112 : decode cX0_take 112 = .ok (.iconst 0, 1) := by decide +kernel
theorem dX0_take_113 : decode cX0_take 113 = .ok (.bipush 16, 2) := by decide +kernel
theorem dX0_take_115 : decode cX0_take 115 = .ok (.invokestatic 74, 3) := by decide +kernel
theorem dX0_take_118 : decode cX0_take 118 = .ok (.return_, 1) := by decide +kernel
theorem dX0_beginAnew_0 : decode cX0_beginAnew 0 = .ok (.aload_n 0, 1) := by decide +kernel
theorem dX0_beginAnew_1 : decode cX0_beginAnew 1 = .ok (.getfield 12, 3) := by decide +kernel
theorem dX0_beginAnew_4 : decode cX0_beginAnew 4 = .ok (.invokevirtual 80, 3) := by decide +kernel
theorem dX0_beginAnew_7 : decode cX0_beginAnew 7 = .ok (.aload_n 0, 1) := by decide +kernel
theorem dX0_beginAnew_8 : decode cX0_beginAnew 8 = .ok (.getfield 21, 3) := by decide +kernel
theorem dX0_beginAnew_11 : decode cX0_beginAnew 11 = .ok (.invokevirtual 83, 3) := by decide +kernel
theorem dX0_beginAnew_14 : decode cX0_beginAnew 14 = .ok (.aload_n 0, 1) := by decide +kernel
theorem dX0_beginAnew_15 : decode cX0_beginAnew 15 = .ok (.getfield 28, 3) := by decide +kernel
theorem dX0_beginAnew_18 : decode cX0_beginAnew 18 = .ok (.iconst 0, 1) := by decide +kernel
theorem dX0_beginAnew_19 : decode cX0_beginAnew 19 = .ok (.putfield 84, 3) := by decide +kernel
theorem dX0_beginAnew_22 : decode cX0_beginAnew 22 = .ok (.aload_n 0, 1) := by decide +kernel
theorem dX0_beginAnew_23 : decode cX0_beginAnew 23 = .ok (.iconst 0, 1) := by decide +kernel
theorem dX0_beginAnew_24 : decode cX0_beginAnew 24 = .ok (.putfield 62, 3) := by decide +kernel
theorem dX0_beginAnew_27 : decode cX0_beginAnew 27 = .ok (.aload_n 0, 1) := by decide +kernel
theorem dX0_beginAnew_28 : decode cX0_beginAnew 28 = .ok (.iconst 0, 1) := by decide +kernel
theorem dX0_beginAnew_29 : decode cX0_beginAnew 29 = .ok (.putfield 65, 3) := by decide +kernel
theorem dX0_beginAnew_32 : decode cX0_beginAnew 32 = .ok (.aload_n 0, 1) := by decide +kernel
theorem dX0_beginAnew_33 : decode cX0_beginAnew 33 = .ok (.iconst 0, 1) := by decide +kernel
theorem dX0_beginAnew_34 : decode cX0_beginAnew 34 = .ok (.putfield 68, 3) := by decide +kernel
theorem dX0_beginAnew_37 : decode cX0_beginAnew 37 = .ok (.aload_n 0, 1) := by decide +kernel
theorem dX0_beginAnew_38 : decode cX0_beginAnew 38 = .ok (.iconst 0, 1) := by decide +kernel
theorem dX0_beginAnew_39 : decode cX0_beginAnew 39 = .ok (.putfield 71, 3) := by decide +kernel
theorem dX0_beginAnew_42 : decode cX0_beginAnew 42 = .ok (.aload_n 0, 1) := by decide +kernel
theorem dX0_beginAnew_43 : decode cX0_beginAnew 43 = .ok (.getfield 36, 3) := by decide +kernel
theorem dX0_beginAnew_46 : decode cX0_beginAnew 46 = .ok (.iconst (-1), 1) := by decide +kernel
theorem dX0_beginAnew_47 : decode cX0_beginAnew 47 = .ok (.invokestatic 46, 3) := by decide +kernel
theorem dX0_beginAnew_50 : decode cX0_beginAnew 50 = .ok (.return_, 1) := by decide +kernel
theorem dX0_groupKey_0 : decode cX0_groupKey 0 = .ok (.aload_n 0, 1) := by decide +kernel
theorem dX0_groupKey_1 : decode cX0_groupKey 1 = .ok (.getfield 21, 3) := by decide +kernel
theorem dX0_groupKey_4 : decode cX0_groupKey 4 = .ok (.getfield 87, 3) := by decide +kernel
theorem dX0_groupKey_7 : decode cX0_groupKey 7 = .ok (.iconst 1, 1) := by decide +kernel
theorem dX0_groupKey_8 : decode cX0_groupKey 8 = .ok (.iaload, 1) := by decide +kernel
theorem dX0_groupKey_9 : decode cX0_groupKey 9 = .ok (.ireturn, 1) := by decide +kernel
theorem dX0_unread_0 : decode cX0_unread 0 = .ok (.aload_n 0, 1) := by decide +kernel
theorem dX0_unread_1 : decode cX0_unread 1 = .ok (.getfield 28, 3) := by decide +kernel
theorem dX0_unread_4 : decode cX0_unread 4 = .ok (.getfield 84, 3) := by decide +kernel
theorem dX0_unread_7 : decode cX0_unread 7 = .ok (.aload_n 0, 1) := by decide +kernel
theorem dX0_unread_8 : decode cX0_unread 8 = .ok (.getfield 43, 3) := by decide +kernel
theorem dX0_unread_11 : decode cX0_unread 11 = .ok (.iload_n 1, 1) := by decide +kernel
theorem dX0_unread_12 : decode cX0_unread 12 = .ok (.iaload, 1) := by decide +kernel
theorem dX0_unread_13 : decode cX0_unread 13 = .ok (.isub, 1) := by decide +kernel
theorem dX0_unread_14 : decode cX0_unread 14 = .ok (.ireturn, 1) := by decide +kernel
theorem dX0_mayCome_0 : decode cX0_mayCome 0 = .ok (.aload_n 0, 1) := by decide +kernel
theorem dX0_mayCome_1 : decode cX0_mayCome 1 = .ok (.getfield 12, 3) := by decide +kernel
theorem dX0_mayCome_4 : decode cX0_mayCome 4 = .ok (.iload_n 1, 1) := by decide +kernel
theorem dX0_mayCome_5 : decode cX0_mayCome 5 = .ok (.invokevirtual 90, 3) := by decide +kernel
theorem dX0_mayCome_8 : decode cX0_mayCome 8 = .ok (.ifCond .ne 18, 3) := by decide +kernel
theorem dX0_mayCome_11 : decode cX0_mayCome 11 = .ok (.aload_n 0, 1) := by decide +kernel
theorem dX0_mayCome_12 : decode cX0_mayCome 12 = .ok (.getfield 62, 3) := by decide +kernel
theorem dX0_mayCome_15 : decode cX0_mayCome 15 = .ok (.iload_n 1, 1) := by decide +kernel
theorem dX0_mayCome_16 : decode cX0_mayCome 16 = .ok (.invokestatic 94, 3) := by decide +kernel
theorem dX0_mayCome_19 : decode cX0_mayCome 19 = .ok (.ifCond .ne 7, 3) := by decide +kernel
theorem dX0_mayCome_22 : decode cX0_mayCome 22 = .ok (.iconst 1, 1) := by decide +kernel
theorem dX0_mayCome_23 : decode cX0_mayCome 23 = .ok (.goto 4, 3) := by decide +kernel
theorem dX0_mayCome_26 : decode cX0_mayCome 26 = .ok (.iconst 0, 1) := by decide +kernel
theorem dX0_mayCome_27 : decode cX0_mayCome 27 = .ok (.ireturn, 1) := by decide +kernel
theorem dX0_mayLeave_0 : decode cX0_mayLeave 0 = .ok (.aload_n 0, 1) := by decide +kernel
theorem dX0_mayLeave_1 : decode cX0_mayLeave 1 = .ok (.getfield 12, 3) := by decide +kernel
theorem dX0_mayLeave_4 : decode cX0_mayLeave 4 = .ok (.iload_n 1, 1) := by decide +kernel
theorem dX0_mayLeave_5 : decode cX0_mayLeave 5 = .ok (.invokevirtual 90, 3) := by decide +kernel
theorem dX0_mayLeave_8 : decode cX0_mayLeave 8 = .ok (.ifCond .eq 18, 3) := by decide +kernel
theorem dX0_mayLeave_11 : decode cX0_mayLeave 11 = .ok (.aload_n 0, 1) := by decide +kernel
theorem dX0_mayLeave_12 : decode cX0_mayLeave 12 = .ok (.getfield 65, 3) := by decide +kernel
theorem dX0_mayLeave_15 : decode cX0_mayLeave 15 = .ok (.iload_n 1, 1) := by decide +kernel
theorem dX0_mayLeave_16 : decode cX0_mayLeave 16 = .ok (.invokestatic 94, 3) := by decide +kernel
theorem dX0_mayLeave_19 : decode cX0_mayLeave 19 = .ok (.ifCond .ne 7, 3) := by decide +kernel
theorem dX0_mayLeave_22 : decode cX0_mayLeave 22 = .ok (.iconst 1, 1) := by decide +kernel
theorem dX0_mayLeave_23 : decode cX0_mayLeave 23 = .ok (.goto 4, 3) := by decide +kernel
theorem dX0_mayLeave_26 : decode cX0_mayLeave 26 = .ok (.iconst 0, 1) := by decide +kernel
theorem dX0_mayLeave_27 : decode cX0_mayLeave 27 = .ok (.ireturn, 1) := by decide +kernel
theorem dX0_isAwake_0 : decode cX0_isAwake 0 = .ok (.aload_n 0, 1) := by decide +kernel
theorem dX0_isAwake_1 : decode cX0_isAwake 1 = .ok (.getfield 12, 3) := by decide +kernel
theorem dX0_isAwake_4 : decode cX0_isAwake 4 = .ok (.iload_n 1, 1) := by decide +kernel
theorem dX0_isAwake_5 : decode cX0_isAwake 5 = .ok (.invokevirtual 90, 3) := by decide +kernel
theorem dX0_isAwake_8 : decode cX0_isAwake 8 = .ok (.ifCond .eq 18, 3) := by decide +kernel
theorem dX0_isAwake_11 : decode cX0_isAwake 11 = .ok (.aload_n 0, 1) := by decide +kernel
theorem dX0_isAwake_12 : decode cX0_isAwake 12 = .ok (.getfield 68, 3) := by decide +kernel
theorem dX0_isAwake_15 : decode cX0_isAwake 15 = .ok (.iload_n 1, 1) := by decide +kernel
theorem dX0_isAwake_16 : decode cX0_isAwake 16 = .ok (.invokestatic 94, 3) := by decide +kernel
theorem dX0_isAwake_19 : decode cX0_isAwake 19 = .ok (.ifCond .ne 7, 3) := by decide +kernel
theorem dX0_isAwake_22 : decode cX0_isAwake 22 = .ok (.iconst 1, 1) := by decide +kernel
theorem dX0_isAwake_23 : decode cX0_isAwake 23 = .ok (.goto 4, 3) := by decide +kernel
theorem dX0_isAwake_26 : decode cX0_isAwake 26 = .ok (.iconst 0, 1) := by decide +kernel
theorem dX0_isAwake_27 : decode cX0_isAwake 27 = .ok (.ireturn, 1) := by decide +kernel
theorem dX0_isAsleep_0 : decode cX0_isAsleep 0 = .ok (.aload_n 0, 1) := by decide +kernel
theorem dX0_isAsleep_1 : decode cX0_isAsleep 1 = .ok (.getfield 68, 3) := by decide +kernel
theorem dX0_isAsleep_4 : decode cX0_isAsleep 4 = .ok (.iload_n 1, 1) := by decide +kernel
theorem dX0_isAsleep_5 : decode cX0_isAsleep 5 = .ok (.invokestatic 94, 3) := by decide +kernel
theorem dX0_isAsleep_8 : decode cX0_isAsleep 8 = .ok (.ireturn, 1) := by decide +kernel
theorem dX0_batchRefusal_0 : decode cX0_batchRefusal 0 = .ok (.aload_n 0, 1) := by decide +kernel
theorem dX0_batchRefusal_1 : decode cX0_batchRefusal 1 = .ok (.getfield 62, 3) := by decide +kernel
theorem dX0_batchRefusal_4 : decode cX0_batchRefusal 4 = .ok (.ifCond .ne 13, 3) := by decide +kernel
theorem dX0_batchRefusal_7 : decode cX0_batchRefusal 7 = .ok (.aload_n 0, 1) := by decide +kernel
theorem dX0_batchRefusal_8 : decode cX0_batchRefusal 8 = .ok (.getfield 65, 3) := by decide +kernel
theorem dX0_batchRefusal_11 : decode cX0_batchRefusal 11 = .ok (.ifCond .ne 6, 3) := by decide +kernel
theorem dX0_batchRefusal_14 : decode cX0_batchRefusal 14 = .ok (.bipush (-2), 2) := by decide +kernel
theorem dX0_batchRefusal_16 : decode cX0_batchRefusal 16 = .ok (.ireturn, 1) := by decide +kernel
theorem dX0_batchRefusal_17 : decode cX0_batchRefusal 17 = .ok (.aload_n 0, 1) := by decide +kernel
theorem dX0_batchRefusal_18 : decode cX0_batchRefusal 18 = .ok (.invokevirtual 98, 3) := by decide +kernel
theorem dX0_batchRefusal_21 : decode cX0_batchRefusal 21 = .ok (.ireturn, 1) := by decide +kernel
theorem dX0_mendRefusal_0 : decode cX0_mendRefusal 0 = .ok (.aload_n 0, 1) := by decide +kernel
theorem dX0_mendRefusal_1 : decode cX0_mendRefusal 1 = .ok (.iload_n 1, 1) := by decide +kernel
theorem dX0_mendRefusal_2 : decode cX0_mendRefusal 2 = .ok (.invokevirtual 102, 3) := by decide +kernel
theorem dX0_mendRefusal_5 : decode cX0_mendRefusal 5 = .ok (.ifCond .eq 11, 3) := by decide +kernel
theorem dX0_mendRefusal_8 : decode cX0_mendRefusal 8 = .ok (.aload_n 0, 1) := by decide +kernel
theorem dX0_mendRefusal_9 : decode cX0_mendRefusal 9 = .ok (.iload_n 1, 1) := by decide +kernel
theorem dX0_mendRefusal_10 : decode cX0_mendRefusal 10 = .ok (.invokevirtual 105, 3) := by decide +kernel
theorem dX0_mendRefusal_13 : decode cX0_mendRefusal 13 = .ok (.ifCond .eq 6, 3) := by decide +kernel
theorem dX0_mendRefusal_16 : decode cX0_mendRefusal 16 = .ok (.bipush (-2), 2) := by decide +kernel
theorem dX0_mendRefusal_18 : decode cX0_mendRefusal 18 = .ok (.ireturn, 1) := by decide +kernel
theorem dX0_mendRefusal_19 : decode cX0_mendRefusal 19 = .ok (.aload_n 0, 1) := by decide +kernel
theorem dX0_mendRefusal_20 : decode cX0_mendRefusal 20 = .ok (.invokevirtual 98, 3) := by decide +kernel
theorem dX0_mendRefusal_23 : decode cX0_mendRefusal 23 = .ok (.ireturn, 1) := by decide +kernel
theorem dX0_fullRefusal_0 : decode cX0_fullRefusal 0 = .ok (.aload_n 0, 1) := by decide +kernel
theorem dX0_fullRefusal_1 : decode cX0_fullRefusal 1 = .ok (.getfield 21, 3) := by decide +kernel
theorem dX0_fullRefusal_4 : decode cX0_fullRefusal 4 = .ok (.getfield 108, 3) := by decide +kernel
theorem dX0_fullRefusal_7 : decode cX0_fullRefusal 7 = .ok (.sipush 200, 3) := by decide +kernel
theorem dX0_fullRefusal_10 : decode cX0_fullRefusal 10 = .ok (.if_icmp .ge 16, 3) := by decide +kernel
theorem dX0_fullRefusal_13 : decode cX0_fullRefusal 13 = .ok (.aload_n 0, 1) := by decide +kernel
theorem dX0_fullRefusal_14 : decode cX0_fullRefusal 14 = .ok (.getfield 28, 3) := by decide +kernel
theorem dX0_fullRefusal_17 : decode cX0_fullRefusal 17 = .ok (.getfield 84, 3) := by decide +kernel
theorem dX0_fullRefusal_20 : decode cX0_fullRefusal 20 = .ok (.sipush 160, 3) := by decide +kernel
theorem dX0_fullRefusal_23 : decode cX0_fullRefusal 23 = .ok (.if_icmp .lt 8, 3) := by decide +kernel
theorem dX0_fullRefusal_26 : decode cX0_fullRefusal 26 = .ok (.bipush (-3), 2) := by decide +kernel
theorem dX0_fullRefusal_28 : decode cX0_fullRefusal 28 = .ok (.goto 4, 3) := by decide +kernel
theorem dX0_fullRefusal_31 : decode cX0_fullRefusal 31 = .ok (.iconst 0, 1) := by decide +kernel
theorem dX0_fullRefusal_32 : decode cX0_fullRefusal 32 = .ok (.ireturn, 1) := by decide +kernel
theorem dX0_holdsAllAbove_0 : decode cX0_holdsAllAbove 0 = .ok (.aload_n 0, 1) := by decide +kernel
theorem dX0_holdsAllAbove_1 : decode cX0_holdsAllAbove 1 = .ok (.getfield 12, 3) := by decide +kernel
theorem dX0_holdsAllAbove_4 : decode cX0_holdsAllAbove 4 = .ok (.getfield 111, 3) := by decide +kernel
theorem dX0_holdsAllAbove_7 : decode cX0_holdsAllAbove 7 = .ok (.iload_n 1, 1) := by decide +kernel
theorem dX0_holdsAllAbove_8 : decode cX0_holdsAllAbove 8 = .ok (.iaload, 1) := by decide +kernel
theorem dX0_holdsAllAbove_9 : decode cX0_holdsAllAbove 9 = .ok (.iconst 2, 1) := by decide +kernel
theorem dX0_holdsAllAbove_10 : decode cX0_holdsAllAbove 10 = .ok (.idiv, 1) := by decide +kernel
theorem dX0_holdsAllAbove_11 : decode cX0_holdsAllAbove 11 = .ok (.istore_n 2, 1) := by decide +kernel
theorem dX0_holdsAllAbove_12 : decode cX0_holdsAllAbove 12 = .ok (.iload_n 2, 1) := by decide +kernel
theorem dX0_holdsAllAbove_13 : decode cX0_holdsAllAbove 13 = .ok (.iconst 1, 1) := by decide +kernel
theorem dX0_holdsAllAbove_14 : decode cX0_holdsAllAbove 14 = .ok (.if_icmp .lt 32, 3) := by decide +kernel
theorem dX0_holdsAllAbove_17 : decode cX0_holdsAllAbove 17 = .ok (.aload_n 0, 1) := by decide +kernel
theorem dX0_holdsAllAbove_18 : decode cX0_holdsAllAbove 18 = .ok (.getfield 21, 3) := by decide +kernel
theorem dX0_holdsAllAbove_21 : decode cX0_holdsAllAbove 21 = .ok (.aload_n 0, 1) := by decide +kernel
theorem dX0_holdsAllAbove_22 : decode cX0_holdsAllAbove 22 = .ok (.getfield 21, 3) := by decide +kernel
theorem dX0_holdsAllAbove_25 : decode cX0_holdsAllAbove 25 = .ok (.getfield 87, 3) := by decide +kernel
theorem dX0_holdsAllAbove_28 : decode cX0_holdsAllAbove 28 = .ok (.iload_n 2, 1) := by decide +kernel
theorem dX0_holdsAllAbove_29 : decode cX0_holdsAllAbove 29 = .ok (.iaload, 1) := by decide +kernel
theorem dX0_holdsAllAbove_30 : decode cX0_holdsAllAbove 30 = .ok (.iload_n 1, 1) := by decide +kernel
theorem dX0_holdsAllAbove_31 : decode cX0_holdsAllAbove 31 = .ok (.invokevirtual 114, 3) := by decide +kernel
theorem dX0_holdsAllAbove_34 : decode cX0_holdsAllAbove 34 = .ok (.ifCond .ne 5, 3) := by decide +kernel
theorem dX0_holdsAllAbove_37 : decode cX0_holdsAllAbove 37 = .ok (.iconst 0, 1) := by decide +kernel
theorem dX0_holdsAllAbove_38 : decode cX0_holdsAllAbove 38 = .ok (.ireturn, 1) := by decide +kernel
theorem dX0_holdsAllAbove_39 : decode cX0_holdsAllAbove 39 = .ok (.iload_n 2, 1) := by decide +kernel
theorem dX0_holdsAllAbove_40 : decode cX0_holdsAllAbove 40 = .ok (.iconst 2, 1) := by decide +kernel
theorem dX0_holdsAllAbove_41 : decode cX0_holdsAllAbove 41 = .ok (.idiv, 1) := by decide +kernel
theorem dX0_holdsAllAbove_42 : decode cX0_holdsAllAbove 42 = .ok (.istore_n 2, 1) := by decide +kernel
theorem dX0_holdsAllAbove_43 : decode cX0_holdsAllAbove 43 = .ok (.goto (-31), 3) := by decide +kernel
theorem dX0_holdsAllAbove_46 : decode cX0_holdsAllAbove 46 = .ok (.iconst 1, 1) := by decide +kernel
theorem dX0_holdsAllAbove_47 : decode cX0_holdsAllAbove 47 = .ok (.ireturn, 1) := by decide +kernel
theorem dX0_addComer_0 : decode cX0_addComer 0 = .ok (.aload_n 0, 1) := by decide +kernel
theorem dX0_addComer_1 : decode cX0_addComer 1 = .ok (.dup, 1) := by decide +kernel
theorem dX0_addComer_2 : decode cX0_addComer 2 = .ok (.getfield 62, 3) := by decide +kernel
theorem dX0_addComer_5 : decode cX0_addComer 5 = .ok (.iconst 1, 1) := by decide +kernel
theorem dX0_addComer_6 : decode cX0_addComer 6 = .ok (.iload_n 1, 1) := by decide +kernel
theorem dX0_addComer_7 : decode cX0_addComer 7 = .ok (.ishl, 1) := by decide +kernel
theorem dX0_addComer_8 : decode cX0_addComer 8 = .ok (.ior, 1) := by decide +kernel
theorem dX0_addComer_9 : decode cX0_addComer 9 = .ok (.putfield 62, 3) := by decide +kernel
theorem dX0_addComer_12 : decode cX0_addComer 12 = .ok (.return_, 1) := by decide +kernel
theorem dX0_addLeaver_0 : decode cX0_addLeaver 0 = .ok (.aload_n 0, 1) := by decide +kernel
theorem dX0_addLeaver_1 : decode cX0_addLeaver 1 = .ok (.dup, 1) := by decide +kernel
theorem dX0_addLeaver_2 : decode cX0_addLeaver 2 = .ok (.getfield 65, 3) := by decide +kernel
theorem dX0_addLeaver_5 : decode cX0_addLeaver 5 = .ok (.iconst 1, 1) := by decide +kernel
theorem dX0_addLeaver_6 : decode cX0_addLeaver 6 = .ok (.iload_n 1, 1) := by decide +kernel
theorem dX0_addLeaver_7 : decode cX0_addLeaver 7 = .ok (.ishl, 1) := by decide +kernel
theorem dX0_addLeaver_8 : decode cX0_addLeaver 8 = .ok (.ior, 1) := by decide +kernel
theorem dX0_addLeaver_9 : decode cX0_addLeaver 9 = .ok (.putfield 65, 3) := by decide +kernel
theorem dX0_addLeaver_12 : decode cX0_addLeaver 12 = .ok (.return_, 1) := by decide +kernel
theorem dX0_tryCome_0 : decode cX0_tryCome 0 = .ok (.aload_n 0, 1) := by decide +kernel
theorem dX0_tryCome_1 : decode cX0_tryCome 1 = .ok (.iload_n 1, 1) := by decide +kernel
theorem dX0_tryCome_2 : decode cX0_tryCome 2 = .ok (.invokevirtual 117, 3) := by decide +kernel
theorem dX0_tryCome_5 : decode cX0_tryCome 5 = .ok (.ifCond .ne 5, 3) := by decide +kernel
theorem dX0_tryCome_8 : decode cX0_tryCome 8 = .ok (.iconst 0, 1) := by decide +kernel
theorem dX0_tryCome_9 : decode cX0_tryCome 9 = .ok (.ireturn, 1) := by decide +kernel
theorem dX0_tryCome_10 : decode cX0_tryCome 10 = .ok (.aload_n 0, 1) := by decide +kernel
theorem dX0_tryCome_11 : decode cX0_tryCome 11 = .ok (.iload_n 1, 1) := by decide +kernel
theorem dX0_tryCome_12 : decode cX0_tryCome 12 = .ok (.invokevirtual 120, 3) := by decide +kernel
theorem dX0_tryCome_15 : decode cX0_tryCome 15 = .ok (.iconst 1, 1) := by decide +kernel
theorem dX0_tryCome_16 : decode cX0_tryCome 16 = .ok (.ireturn, 1) := by decide +kernel
theorem dX0_tryLeave_0 : decode cX0_tryLeave 0 = .ok (.aload_n 0, 1) := by decide +kernel
theorem dX0_tryLeave_1 : decode cX0_tryLeave 1 = .ok (.iload_n 1, 1) := by decide +kernel
theorem dX0_tryLeave_2 : decode cX0_tryLeave 2 = .ok (.invokevirtual 124, 3) := by decide +kernel
theorem dX0_tryLeave_5 : decode cX0_tryLeave 5 = .ok (.ifCond .ne 5, 3) := by decide +kernel
theorem dX0_tryLeave_8 : decode cX0_tryLeave 8 = .ok (.iconst 0, 1) := by decide +kernel
theorem dX0_tryLeave_9 : decode cX0_tryLeave 9 = .ok (.ireturn, 1) := by decide +kernel
theorem dX0_tryLeave_10 : decode cX0_tryLeave 10 = .ok (.aload_n 0, 1) := by decide +kernel
theorem dX0_tryLeave_11 : decode cX0_tryLeave 11 = .ok (.iload_n 1, 1) := by decide +kernel
theorem dX0_tryLeave_12 : decode cX0_tryLeave 12 = .ok (.invokevirtual 127, 3) := by decide +kernel
theorem dX0_tryLeave_15 : decode cX0_tryLeave 15 = .ok (.iconst 1, 1) := by decide +kernel
theorem dX0_tryLeave_16 : decode cX0_tryLeave 16 = .ok (.ireturn, 1) := by decide +kernel
theorem dX0_tryBatch_0 : decode cX0_tryBatch 0 = .ok (.aload_n 0, 1) := by decide +kernel
theorem dX0_tryBatch_1 : decode cX0_tryBatch 1 = .ok (.invokevirtual 130, 3) := by decide +kernel
theorem dX0_tryBatch_4 : decode cX0_tryBatch 4 = .ok (.ifCond .eq 5, 3) := by decide +kernel
theorem dX0_tryBatch_7 : decode cX0_tryBatch 7 = .ok (.iconst 0, 1) := by decide +kernel
theorem dX0_tryBatch_8 : decode cX0_tryBatch 8 = .ok (.ireturn, 1) := by decide +kernel
theorem dX0_tryBatch_9 : decode cX0_tryBatch 9 = .ok (.aload_n 0, 1) := by decide +kernel
theorem dX0_tryBatch_10 : decode cX0_tryBatch 10 = .ok (.invokevirtual 133, 3) := by decide +kernel
theorem dX0_tryBatch_13 : decode cX0_tryBatch 13 = .ok (.pop, 1) := by decide +kernel
theorem dX0_tryBatch_14 : decode cX0_tryBatch 14 = .ok (.iconst 1, 1) := by decide +kernel
theorem dX0_tryBatch_15 : decode cX0_tryBatch 15 = .ok (.ireturn, 1) := by decide +kernel
theorem dX0_changeAll_0 : decode cX0_changeAll 0 = .ok (.aload_n 0, 1) := by decide +kernel
theorem dX0_changeAll_1 : decode cX0_changeAll 1 = .ok (.getfield 28, 3) := by decide +kernel
theorem dX0_changeAll_4 : decode cX0_changeAll 4 = .ok (.getfield 84, 3) := by decide +kernel
theorem dX0_changeAll_7 : decode cX0_changeAll 7 = .ok (.istore_n 1, 1) := by decide +kernel
theorem dX0_changeAll_8 : decode cX0_changeAll 8 = .ok (.aload_n 0, 1) := by decide +kernel
theorem dX0_changeAll_9 : decode cX0_changeAll 9 = .ok (.getfield 12, 3) := by decide +kernel
theorem dX0_changeAll_12 : decode cX0_changeAll 12 = .ok (.aload_n 0, 1) := by decide +kernel
theorem dX0_changeAll_13 : decode cX0_changeAll 13 = .ok (.getfield 65, 3) := by decide +kernel
theorem dX0_changeAll_16 : decode cX0_changeAll 16 = .ok (.aload_n 0, 1) := by decide +kernel
theorem dX0_changeAll_17 : decode cX0_changeAll 17 = .ok (.getfield 62, 3) := by decide +kernel
theorem dX0_changeAll_20 : decode cX0_changeAll 20 = .ok (.invokevirtual 136, 3) := by decide +kernel
theorem dX0_changeAll_23 : decode cX0_changeAll 23 = .ok (.istore_n 2, 1) := by decide +kernel
theorem dX0_changeAll_24 : decode cX0_changeAll 24 = .ok (.aload_n 0, 1) := by decide +kernel
theorem dX0_changeAll_25 : decode cX0_changeAll 25 = .ok (.getfield 21, 3) := by decide +kernel
theorem dX0_changeAll_28 : decode cX0_changeAll 28 = .ok (.aload_n 0, 1) := by decide +kernel
theorem dX0_changeAll_29 : decode cX0_changeAll 29 = .ok (.getfield 12, 3) := by decide +kernel
theorem dX0_changeAll_32 : decode cX0_changeAll 32 = .ok (.iload_n 2, 1) := by decide +kernel
theorem dX0_changeAll_33 : decode cX0_changeAll 33 = .ok (.aload_n 0, 1) := by decide +kernel
theorem dX0_changeAll_34 : decode cX0_changeAll 34 = .ok (.getfield 71, 3) := by decide +kernel
theorem dX0_changeAll_37 : decode cX0_changeAll 37 = .ok (.invokevirtual 140, 3) := by decide +kernel
theorem dX0_changeAll_40 : decode cX0_changeAll 40 = .ok (.iconst 0, 1) := by decide +kernel
theorem dX0_changeAll_41 : decode cX0_changeAll 41 = .ok (.istore_n 3, 1) := by decide +kernel
theorem dX0_changeAll_42 : decode cX0_changeAll 42 = .ok (.iload_n 3, 1) := by decide +kernel
theorem dX0_changeAll_43 : decode cX0_changeAll 43 = .ok (.bipush 16, 2) := by decide +kernel
theorem dX0_changeAll_45 : decode cX0_changeAll 45 = .ok (.if_icmp .ge 86, 3) := by decide +kernel
theorem dX0_changeAll_48 : decode cX0_changeAll 48 = .ok (.aload_n 0, 1) := by decide +kernel
theorem dX0_changeAll_49 : decode cX0_changeAll 49 = .ok (.getfield 62, 3) := by decide +kernel
theorem dX0_changeAll_52 : decode cX0_changeAll 52 = .ok (.iload_n 3, 1) := by decide +kernel
theorem dX0_changeAll_53 : decode cX0_changeAll 53 = .ok (.invokestatic 94, 3) := by decide +kernel
theorem dX0_changeAll_56 : decode cX0_changeAll 56 = .ok (.ifCond .eq 48, 3) := by decide +kernel
theorem dX0_changeAll_59 : decode cX0_changeAll 59 = .ok (.aload_n 0, 1) := by decide +kernel
theorem dX0_changeAll_60 : decode cX0_changeAll 60 = .ok (.getfield 36, 3) := by decide +kernel
theorem dX0_changeAll_63 : decode cX0_changeAll 63 = .ok (.iload_n 3, 1) := by decide +kernel
theorem dX0_changeAll_64 : decode cX0_changeAll 64 = .ok (.aload_n 0, 1) := by decide +kernel
theorem dX0_changeAll_65 : decode cX0_changeAll 65 = .ok (.getfield 71, 3) := by decide +kernel
theorem dX0_changeAll_68 : decode cX0_changeAll 68 = .ok (.iastore, 1) := by decide +kernel
theorem dX0_changeAll_69 : decode cX0_changeAll 69 = .ok (.aload_n 0, 1) := by decide +kernel
theorem dX0_changeAll_70 : decode cX0_changeAll 70 = .ok (.getfield 43, 3) := by decide +kernel
theorem dX0_changeAll_73 : decode cX0_changeAll 73 = .ok (.iload_n 3, 1) := by decide +kernel
theorem dX0_changeAll_74 : decode cX0_changeAll 74 = .ok (.iload_n 1, 1) := by decide +kernel
theorem dX0_changeAll_75 : decode cX0_changeAll 75 = .ok (.iastore, 1) := by decide +kernel
theorem dX0_changeAll_76 : decode cX0_changeAll 76 = .ok (.aload_n 0, 1) := by decide +kernel
theorem dX0_changeAll_77 : decode cX0_changeAll 77 = .ok (.getfield 21, 3) := by decide +kernel
theorem dX0_changeAll_80 : decode cX0_changeAll 80 = .ok (.aload_n 0, 1) := by decide +kernel
theorem dX0_changeAll_81 : decode cX0_changeAll 81 = .ok (.getfield 21, 3) := by decide +kernel
theorem dX0_changeAll_84 : decode cX0_changeAll 84 = .ok (.getfield 87, 3) := by decide +kernel
theorem dX0_changeAll_87 : decode cX0_changeAll 87 = .ok (.aload_n 0, 1) := by decide +kernel
theorem dX0_changeAll_88 : decode cX0_changeAll 88 = .ok (.getfield 12, 3) := by decide +kernel
theorem dX0_changeAll_91 : decode cX0_changeAll 91 = .ok (.getfield 111, 3) := by decide +kernel
theorem dX0_changeAll_94 : decode cX0_changeAll 94 = .ok (.iload_n 3, 1) := by decide +kernel
theorem dX0_changeAll_95 : decode cX0_changeAll 95 = .ok (.iaload, 1) := by decide +kernel
theorem dX0_changeAll_96 : decode cX0_changeAll 96 = .ok (.iaload, 1) := by decide +kernel
theorem dX0_changeAll_97 : decode cX0_changeAll 97 = .ok (.iload_n 3, 1) := by decide +kernel
theorem dX0_changeAll_98 : decode cX0_changeAll 98 = .ok (.invokevirtual 144, 3) := by decide +kernel
theorem dX0_changeAll_101 : decode cX0_changeAll 101 = .ok (.goto 24, 3) := by decide +kernel
theorem dX0_changeAll_104 : decode cX0_changeAll 104 = .ok (.aload_n 0, 1) := by decide +kernel
theorem dX0_changeAll_105 : decode cX0_changeAll 105 = .ok (.getfield 65, 3) := by decide +kernel
theorem dX0_changeAll_108 : decode cX0_changeAll 108 = .ok (.iload_n 3, 1) := by decide +kernel
theorem dX0_changeAll_109 : decode cX0_changeAll 109 = .ok (.invokestatic 94, 3) := by decide +kernel
theorem dX0_changeAll_112 : decode cX0_changeAll 112 = .ok (.ifCond .eq 13, 3) := by decide +kernel
theorem dX0_changeAll_115 : decode cX0_changeAll 115 = .ok (.aload_n 0, 1) := by decide +kernel
theorem dX0_changeAll_116 : decode cX0_changeAll 116 = .ok (.getfield 40, 3) := by decide +kernel
theorem dX0_changeAll_119 : decode cX0_changeAll 119 = .ok (.iload_n 3, 1) := by decide +kernel
theorem dX0_changeAll_120 : decode cX0_changeAll 120 = .ok (.aload_n 0, 1) := by decide +kernel
theorem dX0_changeAll_121 : decode cX0_changeAll 121 = .ok (.getfield 71, 3) := by decide +kernel
theorem dX0_changeAll_124 : decode cX0_changeAll 124 = .ok (.iastore, 1) := by decide +kernel
theorem dX0_changeAll_125 : decode cX0_changeAll 125 = .ok (.iinc 3 1, 3) := by decide +kernel
theorem dX0_changeAll_128 : decode cX0_changeAll 128 = .ok (.goto (-86), 3) := by decide +kernel
theorem dX0_changeAll_131 : decode cX0_changeAll 131 = .ok (.aload_n 0, 1) := by decide +kernel
theorem dX0_changeAll_132 : decode cX0_changeAll 132 = .ok (.iload_n 2, 1) := by decide +kernel
theorem dX0_changeAll_133 : decode cX0_changeAll 133 = .ok (.invokevirtual 148, 3) := by decide +kernel
theorem dX0_changeAll_136 : decode cX0_changeAll 136 = .ok (.aload_n 0, 1) := by decide +kernel
theorem dX0_changeAll_137 : decode cX0_changeAll 137 = .ok (.dup, 1) := by decide +kernel
theorem dX0_changeAll_138 : decode cX0_changeAll 138 = .ok (.getfield 68, 3) := by decide +kernel
theorem dX0_changeAll_141 : decode cX0_changeAll 141 = .ok (.aload_n 0, 1) := by decide +kernel
theorem dX0_changeAll_142 : decode cX0_changeAll 142 = .ok (.getfield 62, 3) := by decide +kernel
theorem dX0_changeAll_145 : decode cX0_changeAll 145 = .ok (.aload_n 0, 1) := by decide +kernel
theorem dX0_changeAll_146 : decode cX0_changeAll 146 = .ok (.getfield 65, 3) := by decide +kernel
theorem dX0_changeAll_149 : decode cX0_changeAll 149 = .ok (.ior, 1) := by decide +kernel
theorem dX0_changeAll_150 : decode cX0_changeAll 150 = .ok (.iconst (-1), 1) := by decide +kernel
theorem dX0_changeAll_151 : decode cX0_changeAll 151 = .ok (.ixor, 1) := by decide +kernel
theorem dX0_changeAll_152 : decode cX0_changeAll 152 = .ok (.iand, 1) := by decide +kernel
theorem dX0_changeAll_153 : decode cX0_changeAll 153 = .ok (.putfield 68, 3) := by decide +kernel
theorem dX0_changeAll_156 : decode cX0_changeAll 156 = .ok (.aload_n 0, 1) := by decide +kernel
theorem dX0_changeAll_157 : decode cX0_changeAll 157 = .ok (.iconst 0, 1) := by decide +kernel
theorem dX0_changeAll_158 : decode cX0_changeAll 158 = .ok (.putfield 62, 3) := by decide +kernel
theorem dX0_changeAll_161 : decode cX0_changeAll 161 = .ok (.aload_n 0, 1) := by decide +kernel
theorem dX0_changeAll_162 : decode cX0_changeAll 162 = .ok (.iconst 0, 1) := by decide +kernel
theorem dX0_changeAll_163 : decode cX0_changeAll 163 = .ok (.putfield 65, 3) := by decide +kernel
theorem dX0_changeAll_166 : decode cX0_changeAll 166 = .ok (.aload_n 0, 1) := by decide +kernel
theorem dX0_changeAll_167 : decode cX0_changeAll 167 = .ok (.dup, 1) := by decide +kernel
theorem dX0_changeAll_168 : decode cX0_changeAll 168 = .ok (.getfield 71, 3) := by decide +kernel
theorem dX0_changeAll_171 : decode cX0_changeAll 171 = .ok (.iconst 1, 1) := by decide +kernel
theorem dX0_changeAll_172 : decode cX0_changeAll 172 = .ok (.iadd, 1) := by decide +kernel
theorem dX0_changeAll_173 : decode cX0_changeAll 173 = .ok (.putfield 71, 3) := by decide +kernel
theorem dX0_changeAll_176 : decode cX0_changeAll 176 = .ok (.aload_n 0, 1) := by decide +kernel
theorem dX0_changeAll_177 : decode cX0_changeAll 177 = .ok (.invokevirtual 151, 3) := by decide +kernel
theorem dX0_changeAll_180 : decode cX0_changeAll 180 = .ok (.aload_n 0, 1) := by decide +kernel
theorem dX0_changeAll_181 : decode cX0_changeAll 181 = .ok (.getfield 28, 3) := by decide +kernel
theorem dX0_changeAll_184 : decode cX0_changeAll 184 = .ok (.getfield 84, 3) := by decide +kernel
theorem dX0_changeAll_187 : decode cX0_changeAll 187 = .ok (.iload_n 1, 1) := by decide +kernel
theorem dX0_changeAll_188 : decode cX0_changeAll 188 = .ok (.isub, 1) := by decide +kernel
theorem dX0_changeAll_189 : decode cX0_changeAll 189 = .ok (.ireturn, 1) := by decide +kernel
theorem dX0_tellChanged_0 : decode cX0_tellChanged 0 = .ok (.bipush 15, 2) := by decide +kernel
theorem dX0_tellChanged_2 : decode cX0_tellChanged 2 = .ok (.istore_n 2, 1) := by decide +kernel
theorem dX0_tellChanged_3 : decode cX0_tellChanged 3 = .ok (.iload_n 2, 1) := by decide +kernel
theorem dX0_tellChanged_4 : decode cX0_tellChanged 4 = .ok (.iconst 1, 1) := by decide +kernel
theorem dX0_tellChanged_5 : decode cX0_tellChanged 5 = .ok (.if_icmp .lt 35, 3) := by decide +kernel
theorem dX0_tellChanged_8 : decode cX0_tellChanged 8 = .ok (.iload_n 1, 1) := by decide +kernel
theorem dX0_tellChanged_9 : decode cX0_tellChanged 9 = .ok (.iload_n 2, 1) := by decide +kernel
theorem dX0_tellChanged_10 : decode cX0_tellChanged 10 = .ok (.invokestatic 94, 3) := by decide +kernel
theorem dX0_tellChanged_13 : decode cX0_tellChanged 13 = .ok (.ifCond .eq 21, 3) := by decide +kernel
theorem dX0_tellChanged_16 : decode cX0_tellChanged 16 = .ok (.aload_n 0, 1) := by decide +kernel
theorem dX0_tellChanged_17 : decode cX0_tellChanged 17 = .ok (.iload_n 2, 1) := by decide +kernel
theorem dX0_tellChanged_18 : decode cX0_tellChanged 18 = .ok (.iconst 2, 1) := by decide +kernel
theorem dX0_tellChanged_19 : decode cX0_tellChanged 19 = .ok (.iload_n 2, 1) := by decide +kernel
theorem dX0_tellChanged_20 : decode cX0_tellChanged 20 = .ok (.imul, 1) := by decide +kernel
theorem dX0_tellChanged_21 : decode cX0_tellChanged 21 = .ok (.invokevirtual 154, 3) := by decide +kernel
theorem dX0_tellChanged_24 : decode cX0_tellChanged 24 = .ok (.aload_n 0, 1) := by decide +kernel
theorem dX0_tellChanged_25 : decode cX0_tellChanged 25 = .ok (.iload_n 2, 1) := by decide +kernel
theorem dX0_tellChanged_26 : decode cX0_tellChanged 26 = .ok (.iconst 2, 1) := by decide +kernel
theorem dX0_tellChanged_27 : decode cX0_tellChanged 27 = .ok (.iload_n 2, 1) := by decide +kernel
theorem dX0_tellChanged_28 : decode cX0_tellChanged 28 = .ok (.imul, 1) := by decide +kernel
theorem dX0_tellChanged_29 : decode cX0_tellChanged 29 = .ok (.iconst 1, 1) := by decide +kernel
theorem dX0_tellChanged_30 : decode cX0_tellChanged 30 = .ok (.iadd, 1) := by decide +kernel
theorem dX0_tellChanged_31 : decode cX0_tellChanged 31 = .ok (.invokevirtual 154, 3) := by decide +kernel
theorem dX0_tellChanged_34 : decode cX0_tellChanged 34 = .ok (.iinc 2 (-1), 3) := by decide +kernel
theorem dX0_tellChanged_37 : decode cX0_tellChanged 37 = .ok (.goto (-34), 3) := by decide +kernel
theorem dX0_tellChanged_40 : decode cX0_tellChanged 40 = .ok (.return_, 1) := by decide +kernel
theorem dX0_tell_0 : decode cX0_tell 0 = .ok (.aload_n 0, 1) := by decide +kernel
theorem dX0_tell_1 : decode cX0_tell 1 = .ok (.getfield 12, 3) := by decide +kernel
theorem dX0_tell_4 : decode cX0_tell 4 = .ok (.iload_n 2, 1) := by decide +kernel
theorem dX0_tell_5 : decode cX0_tell 5 = .ok (.invokevirtual 157, 3) := by decide +kernel
theorem dX0_tell_8 : decode cX0_tell 8 = .ok (.ifCond .eq 32, 3) := by decide +kernel
theorem dX0_tell_11 : decode cX0_tell 11 = .ok (.aload_n 0, 1) := by decide +kernel
theorem dX0_tell_12 : decode cX0_tell 12 = .ok (.getfield 28, 3) := by decide +kernel
theorem dX0_tell_15 : decode cX0_tell 15 = .ok (.aload_n 0, 1) := by decide +kernel
theorem dX0_tell_16 : decode cX0_tell 16 = .ok (.getfield 21, 3) := by decide +kernel
theorem dX0_tell_19 : decode cX0_tell 19 = .ok (.getfield 87, 3) := by decide +kernel
theorem dX0_tell_22 : decode cX0_tell 22 = .ok (.iload_n 1, 1) := by decide +kernel
theorem dX0_tell_23 : decode cX0_tell 23 = .ok (.iaload, 1) := by decide +kernel
theorem dX0_tell_24 : decode cX0_tell 24 = .ok (.aload_n 0, 1) := by decide +kernel
theorem dX0_tell_25 : decode cX0_tell 25 = .ok (.getfield 21, 3) := by decide +kernel
theorem dX0_tell_28 : decode cX0_tell 28 = .ok (.getfield 87, 3) := by decide +kernel
theorem dX0_tell_31 : decode cX0_tell 31 = .ok (.iload_n 2, 1) := by decide +kernel
theorem dX0_tell_32 : decode cX0_tell 32 = .ok (.iaload, 1) := by decide +kernel
theorem dX0_tell_33 : decode cX0_tell 33 = .ok (.aload_n 0, 1) := by decide +kernel
theorem dX0_tell_34 : decode cX0_tell 34 = .ok (.getfield 71, 3) := by decide +kernel
theorem dX0_tell_37 : decode cX0_tell 37 = .ok (.invokevirtual 160, 3) := by decide +kernel
theorem dX0_tell_40 : decode cX0_tell 40 = .ok (.return_, 1) := by decide +kernel
theorem dX0_readByAll_0 : decode cX0_readByAll 0 = .ok (.iconst 0, 1) := by decide +kernel
theorem dX0_readByAll_1 : decode cX0_readByAll 1 = .ok (.istore_n 1, 1) := by decide +kernel
theorem dX0_readByAll_2 : decode cX0_readByAll 2 = .ok (.iload_n 1, 1) := by decide +kernel
theorem dX0_readByAll_3 : decode cX0_readByAll 3 = .ok (.bipush 16, 2) := by decide +kernel
theorem dX0_readByAll_5 : decode cX0_readByAll 5 = .ok (.if_icmp .ge 23, 3) := by decide +kernel
theorem dX0_readByAll_8 : decode cX0_readByAll 8 = .ok (.aload_n 0, 1) := by decide +kernel
theorem dX0_readByAll_9 : decode cX0_readByAll 9 = .ok (.iload_n 1, 1) := by decide +kernel
theorem dX0_readByAll_10 : decode cX0_readByAll 10 = .ok (.invokevirtual 102, 3) := by decide +kernel
theorem dX0_readByAll_13 : decode cX0_readByAll 13 = .ok (.ifCond .eq 9, 3) := by decide +kernel
theorem dX0_readByAll_16 : decode cX0_readByAll 16 = .ok (.aload_n 0, 1) := by decide +kernel
theorem dX0_readByAll_17 : decode cX0_readByAll 17 = .ok (.iload_n 1, 1) := by decide +kernel
theorem dX0_readByAll_18 : decode cX0_readByAll 18 = .ok (.invokevirtual 164, 3) := by decide +kernel
theorem dX0_readByAll_21 : decode cX0_readByAll 21 = .ok (.pop, 1) := by decide +kernel
theorem dX0_readByAll_22 : decode cX0_readByAll 22 = .ok (.iinc 1 1, 3) := by decide +kernel
theorem dX0_readByAll_25 : decode cX0_readByAll 25 = .ok (.goto (-23), 3) := by decide +kernel
theorem dX0_readByAll_28 : decode cX0_readByAll 28 = .ok (.return_, 1) := by decide +kernel
theorem dX0_readUnread_0 : decode cX0_readUnread 0 = .ok (.iconst 0, 1) := by decide +kernel
theorem dX0_readUnread_1 : decode cX0_readUnread 1 = .ok (.istore_n 2, 1) := by decide +kernel
theorem dX0_readUnread_2 : decode cX0_readUnread 2 = .ok (.aload_n 0, 1) := by decide +kernel
theorem dX0_readUnread_3 : decode cX0_readUnread 3 = .ok (.getfield 43, 3) := by decide +kernel
theorem dX0_readUnread_6 : decode cX0_readUnread 6 = .ok (.iload_n 1, 1) := by decide +kernel
theorem dX0_readUnread_7 : decode cX0_readUnread 7 = .ok (.iaload, 1) := by decide +kernel
theorem dX0_readUnread_8 : decode cX0_readUnread 8 = .ok (.istore_n 3, 1) := by decide +kernel
theorem dX0_readUnread_9 : decode cX0_readUnread 9 = .ok (.iload_n 3, 1) := by decide +kernel
theorem dX0_readUnread_10 : decode cX0_readUnread 10 = .ok (.aload_n 0, 1) := by decide +kernel
theorem dX0_readUnread_11 : decode cX0_readUnread 11 = .ok (.getfield 28, 3) := by decide +kernel
theorem dX0_readUnread_14 : decode cX0_readUnread 14 = .ok (.getfield 84, 3) := by decide +kernel
theorem dX0_readUnread_17 : decode cX0_readUnread 17 = .ok (.if_icmp .ge 66, 3) := by decide +kernel
theorem dX0_readUnread_20 : decode cX0_readUnread 20 = .ok (.aload_n 0, 1) := by decide +kernel
theorem dX0_readUnread_21 : decode cX0_readUnread 21 = .ok (.getfield 28, 3) := by decide +kernel
theorem dX0_readUnread_24 : decode cX0_readUnread 24 = .ok (.getfield 168, 3) := by decide +kernel
theorem dX0_readUnread_27 : decode cX0_readUnread 27 = .ok (.iload_n 3, 1) := by decide +kernel
theorem dX0_readUnread_28 : decode cX0_readUnread 28 = .ok (.iaload, 1) := by decide +kernel
theorem dX0_readUnread_29 : decode cX0_readUnread 29 = .ok (.istore 4, 2) := by decide +kernel
theorem dX0_readUnread_31 : decode cX0_readUnread 31 = .ok (.aload_n 0, 1) := by decide +kernel
theorem dX0_readUnread_32 : decode cX0_readUnread 32 = .ok (.getfield 21, 3) := by decide +kernel
theorem dX0_readUnread_35 : decode cX0_readUnread 35 = .ok (.aload_n 0, 1) := by decide +kernel
theorem dX0_readUnread_36 : decode cX0_readUnread 36 = .ok (.getfield 28, 3) := by decide +kernel
theorem dX0_readUnread_39 : decode cX0_readUnread 39 = .ok (.getfield 171, 3) := by decide +kernel
theorem dX0_readUnread_42 : decode cX0_readUnread 42 = .ok (.iload_n 3, 1) := by decide +kernel
theorem dX0_readUnread_43 : decode cX0_readUnread 43 = .ok (.iaload, 1) := by decide +kernel
theorem dX0_readUnread_44 : decode cX0_readUnread 44 = .ok (.iload_n 1, 1) := by decide +kernel
theorem dX0_readUnread_45 : decode cX0_readUnread 45 = .ok (.invokevirtual 114, 3) := by decide +kernel
theorem dX0_readUnread_48 : decode cX0_readUnread 48 = .ok (.ifCond .eq 29, 3) := by decide +kernel
theorem dX0_readUnread_51 : decode cX0_readUnread 51 = .ok (.aload_n 0, 1) := by decide +kernel
theorem dX0_readUnread_52 : decode cX0_readUnread 52 = .ok (.getfield 21, 3) := by decide +kernel
theorem dX0_readUnread_55 : decode cX0_readUnread 55 = .ok (.iload 4, 2) := by decide +kernel
theorem dX0_readUnread_57 : decode cX0_readUnread 57 = .ok (.iload_n 1, 1) := by decide +kernel
theorem dX0_readUnread_58 : decode cX0_readUnread 58 = .ok (.invokevirtual 114, 3) := by decide +kernel
theorem dX0_readUnread_61 : decode cX0_readUnread 61 = .ok (.ifCond .ne 16, 3) := by decide +kernel
theorem dX0_readUnread_64 : decode cX0_readUnread 64 = .ok (.aload_n 0, 1) := by decide +kernel
theorem dX0_readUnread_65 : decode cX0_readUnread 65 = .ok (.getfield 21, 3) := by decide +kernel
theorem dX0_readUnread_68 : decode cX0_readUnread 68 = .ok (.iload 4, 2) := by decide +kernel
theorem dX0_readUnread_70 : decode cX0_readUnread 70 = .ok (.iload_n 1, 1) := by decide +kernel
theorem dX0_readUnread_71 : decode cX0_readUnread 71 = .ok (.invokevirtual 144, 3) := by decide +kernel
theorem dX0_readUnread_74 : decode cX0_readUnread 74 = .ok (.iinc 2 1, 3) := by decide +kernel
theorem dX0_readUnread_77 : decode cX0_readUnread 77 = .ok (.iinc 3 1, 3) := by decide +kernel
theorem dX0_readUnread_80 : decode cX0_readUnread 80 = .ok (.goto (-71), 3) := by decide +kernel
theorem dX0_readUnread_83 : decode cX0_readUnread 83 = .ok (.aload_n 0, 1) := by decide +kernel
theorem dX0_readUnread_84 : decode cX0_readUnread 84 = .ok (.getfield 43, 3) := by decide +kernel
theorem dX0_readUnread_87 : decode cX0_readUnread 87 = .ok (.iload_n 1, 1) := by decide +kernel
theorem dX0_readUnread_88 : decode cX0_readUnread 88 = .ok (.aload_n 0, 1) := by decide +kernel
theorem dX0_readUnread_89 : decode cX0_readUnread 89 = .ok (.getfield 28, 3) := by decide +kernel
theorem dX0_readUnread_92 : decode cX0_readUnread 92 = .ok (.getfield 84, 3) := by decide +kernel
theorem dX0_readUnread_95 : decode cX0_readUnread 95 = .ok (.iastore, 1) := by decide +kernel
theorem dX0_readUnread_96 : decode cX0_readUnread 96 = .ok (.iload_n 2, 1) := by decide +kernel
theorem dX0_readUnread_97 : decode cX0_readUnread 97 = .ok (.ireturn, 1) := by decide +kernel
theorem dX0_fallAsleep_0 : decode cX0_fallAsleep 0 = .ok (.aload_n 0, 1) := by decide +kernel
theorem dX0_fallAsleep_1 : decode cX0_fallAsleep 1 = .ok (.dup, 1) := by decide +kernel
theorem dX0_fallAsleep_2 : decode cX0_fallAsleep 2 = .ok (.getfield 68, 3) := by decide +kernel
theorem dX0_fallAsleep_5 : decode cX0_fallAsleep 5 = .ok (.iconst 1, 1) := by decide +kernel
theorem dX0_fallAsleep_6 : decode cX0_fallAsleep 6 = .ok (.iload_n 1, 1) := by decide +kernel
theorem dX0_fallAsleep_7 : decode cX0_fallAsleep 7 = .ok (.ishl, 1) := by decide +kernel
theorem dX0_fallAsleep_8 : decode cX0_fallAsleep 8 = .ok (.ior, 1) := by decide +kernel
theorem dX0_fallAsleep_9 : decode cX0_fallAsleep 9 = .ok (.putfield 68, 3) := by decide +kernel
theorem dX0_fallAsleep_12 : decode cX0_fallAsleep 12 = .ok (.iconst 0, 1) := by decide +kernel
theorem dX0_fallAsleep_13 : decode cX0_fallAsleep 13 = .ok (.ireturn, 1) := by decide +kernel
theorem dX0_wakeUp_0 : decode cX0_wakeUp 0 = .ok (.aload_n 0, 1) := by decide +kernel
theorem dX0_wakeUp_1 : decode cX0_wakeUp 1 = .ok (.dup, 1) := by decide +kernel
theorem dX0_wakeUp_2 : decode cX0_wakeUp 2 = .ok (.getfield 68, 3) := by decide +kernel
theorem dX0_wakeUp_5 : decode cX0_wakeUp 5 = .ok (.iconst 1, 1) := by decide +kernel
theorem dX0_wakeUp_6 : decode cX0_wakeUp 6 = .ok (.iload_n 1, 1) := by decide +kernel
theorem dX0_wakeUp_7 : decode cX0_wakeUp 7 = .ok (.ishl, 1) := by decide +kernel
theorem dX0_wakeUp_8 : decode cX0_wakeUp 8 = .ok (.iconst (-1), 1) := by decide +kernel
theorem dX0_wakeUp_9 : decode cX0_wakeUp 9 = .ok (.ixor, 1) := by decide +kernel
theorem dX0_wakeUp_10 : decode cX0_wakeUp 10 = .ok (.iand, 1) := by decide +kernel
theorem dX0_wakeUp_11 : decode cX0_wakeUp 11 = .ok (.putfield 68, 3) := by decide +kernel
theorem dX0_wakeUp_14 : decode cX0_wakeUp 14 = .ok (.aload_n 0, 1) := by decide +kernel
theorem dX0_wakeUp_15 : decode cX0_wakeUp 15 = .ok (.iload_n 1, 1) := by decide +kernel
theorem dX0_wakeUp_16 : decode cX0_wakeUp 16 = .ok (.invokevirtual 164, 3) := by decide +kernel
theorem dX0_wakeUp_19 : decode cX0_wakeUp 19 = .ok (.ireturn, 1) := by decide +kernel
theorem dX0_loseLetters_0 : decode cX0_loseLetters 0 = .ok (.iload_n 2, 1) := by decide +kernel
theorem dX0_loseLetters_1 : decode cX0_loseLetters 1 = .ok (.aload_n 0, 1) := by decide +kernel
theorem dX0_loseLetters_2 : decode cX0_loseLetters 2 = .ok (.iload_n 1, 1) := by decide +kernel
theorem dX0_loseLetters_3 : decode cX0_loseLetters 3 = .ok (.invokevirtual 174, 3) := by decide +kernel
theorem dX0_loseLetters_6 : decode cX0_loseLetters 6 = .ok (.invokestatic 177, 3) := by decide +kernel
theorem dX0_loseLetters_9 : decode cX0_loseLetters 9 = .ok (.istore_n 3, 1) := by decide +kernel
theorem dX0_loseLetters_10 : decode cX0_loseLetters 10 = .ok (.aload_n 0, 1) := by decide +kernel
theorem dX0_loseLetters_11 : decode cX0_loseLetters 11 = .ok (.getfield 43, 3) := by decide +kernel
theorem dX0_loseLetters_14 : decode cX0_loseLetters 14 = .ok (.iload_n 1, 1) := by decide +kernel
theorem dX0_loseLetters_15 : decode cX0_loseLetters 15 = .ok (.dup2, 1) := by decide +kernel
theorem dX0_loseLetters_16 : decode cX0_loseLetters 16 = .ok (.iaload, 1) := by decide +kernel
theorem dX0_loseLetters_17 : decode cX0_loseLetters 17 = .ok (.iload_n 3, 1) := by decide +kernel
theorem dX0_loseLetters_18 : decode cX0_loseLetters 18 = .ok (.iadd, 1) := by decide +kernel
theorem dX0_loseLetters_19 : decode cX0_loseLetters 19 = .ok (.iastore, 1) := by decide +kernel
theorem dX0_loseLetters_20 : decode cX0_loseLetters 20 = .ok (.iload_n 3, 1) := by decide +kernel
theorem dX0_loseLetters_21 : decode cX0_loseLetters 21 = .ok (.ireturn, 1) := by decide +kernel
theorem dX0_mendKeys_0 : decode cX0_mendKeys 0 = .ok (.aload_n 0, 1) := by decide +kernel
theorem dX0_mendKeys_1 : decode cX0_mendKeys 1 = .ok (.getfield 28, 3) := by decide +kernel
theorem dX0_mendKeys_4 : decode cX0_mendKeys 4 = .ok (.getfield 84, 3) := by decide +kernel
theorem dX0_mendKeys_7 : decode cX0_mendKeys 7 = .ok (.istore_n 2, 1) := by decide +kernel
theorem dX0_mendKeys_8 : decode cX0_mendKeys 8 = .ok (.aload_n 0, 1) := by decide +kernel
theorem dX0_mendKeys_9 : decode cX0_mendKeys 9 = .ok (.getfield 12, 3) := by decide +kernel
theorem dX0_mendKeys_12 : decode cX0_mendKeys 12 = .ok (.getfield 111, 3) := by decide +kernel
theorem dX0_mendKeys_15 : decode cX0_mendKeys 15 = .ok (.iload_n 1, 1) := by decide +kernel
theorem dX0_mendKeys_16 : decode cX0_mendKeys 16 = .ok (.iaload, 1) := by decide +kernel
theorem dX0_mendKeys_17 : decode cX0_mendKeys 17 = .ok (.istore_n 3, 1) := by decide +kernel
theorem dX0_mendKeys_18 : decode cX0_mendKeys 18 = .ok (.iload_n 3, 1) := by decide +kernel
theorem dX0_mendKeys_19 : decode cX0_mendKeys 19 = .ok (.iconst 2, 1) := by decide +kernel
theorem dX0_mendKeys_20 : decode cX0_mendKeys 20 = .ok (.idiv, 1) := by decide +kernel
theorem dX0_mendKeys_21 : decode cX0_mendKeys 21 = .ok (.istore 4, 2) := by decide +kernel
theorem dX0_mendKeys_23 : decode cX0_mendKeys 23 = .ok (.iload 4, 2) := by decide +kernel
theorem dX0_mendKeys_25 : decode cX0_mendKeys 25 = .ok (.iconst 1, 1) := by decide +kernel
theorem dX0_mendKeys_26 : decode cX0_mendKeys 26 = .ok (.if_icmp .lt 57, 3) := by decide +kernel
theorem dX0_mendKeys_29 : decode cX0_mendKeys 29 = .ok (.aload_n 0, 1) := by decide +kernel
theorem dX0_mendKeys_30 : decode cX0_mendKeys 30 = .ok (.getfield 21, 3) := by decide +kernel
theorem dX0_mendKeys_33 : decode cX0_mendKeys 33 = .ok (.getfield 87, 3) := by decide +kernel
theorem dX0_mendKeys_36 : decode cX0_mendKeys 36 = .ok (.iload 4, 2) := by decide +kernel
theorem dX0_mendKeys_38 : decode cX0_mendKeys 38 = .ok (.iaload, 1) := by decide +kernel
theorem dX0_mendKeys_39 : decode cX0_mendKeys 39 = .ok (.istore 5, 2) := by decide +kernel
theorem dX0_mendKeys_41 : decode cX0_mendKeys 41 = .ok (.aload_n 0, 1) := by decide +kernel
theorem dX0_mendKeys_42 : decode cX0_mendKeys 42 = .ok (.getfield 21, 3) := by decide +kernel
theorem dX0_mendKeys_45 : decode cX0_mendKeys 45 = .ok (.iload 5, 2) := by decide +kernel
theorem dX0_mendKeys_47 : decode cX0_mendKeys 47 = .ok (.iload_n 1, 1) := by decide +kernel
theorem dX0_mendKeys_48 : decode cX0_mendKeys 48 = .ok (.invokevirtual 114, 3) := by decide +kernel
theorem dX0_mendKeys_51 : decode cX0_mendKeys 51 = .ok (.ifCond .ne 23, 3) := by decide +kernel
theorem dX0_mendKeys_54 : decode cX0_mendKeys 54 = .ok (.aload_n 0, 1) := by decide +kernel
theorem dX0_mendKeys_55 : decode cX0_mendKeys 55 = .ok (.getfield 28, 3) := by decide +kernel
theorem dX0_mendKeys_58 : decode cX0_mendKeys 58 = .ok (.iload 5, 2) := by decide +kernel
theorem dX0_mendKeys_60 : decode cX0_mendKeys 60 = .ok (.aload_n 0, 1) := by decide +kernel
theorem dX0_mendKeys_61 : decode cX0_mendKeys 61 = .ok (.getfield 21, 3) := by decide +kernel
theorem dX0_mendKeys_64 : decode cX0_mendKeys 64 = .ok (.getfield 87, 3) := by decide +kernel
theorem dX0_mendKeys_67 : decode cX0_mendKeys 67 = .ok (.iload_n 3, 1) := by decide +kernel
theorem dX0_mendKeys_68 : decode cX0_mendKeys 68 = .ok (.iaload, 1) := by decide +kernel
theorem dX0_mendKeys_69 : decode cX0_mendKeys 69 = .ok (.bipush (-4), 2) := by decide +kernel
theorem dX0_mendKeys_71 : decode cX0_mendKeys 71 = .ok (.invokevirtual 160, 3) := by decide +kernel
theorem dX0_mendKeys_74 : decode cX0_mendKeys 74 = .ok (.iload 4, 2) := by decide +kernel
theorem dX0_mendKeys_76 : decode cX0_mendKeys 76 = .ok (.iconst 2, 1) := by decide +kernel
theorem dX0_mendKeys_77 : decode cX0_mendKeys 77 = .ok (.idiv, 1) := by decide +kernel
theorem dX0_mendKeys_78 : decode cX0_mendKeys 78 = .ok (.istore 4, 2) := by decide +kernel
theorem dX0_mendKeys_80 : decode cX0_mendKeys 80 = .ok (.goto (-57), 3) := by decide +kernel
theorem dX0_mendKeys_83 : decode cX0_mendKeys 83 = .ok (.aload_n 0, 1) := by decide +kernel
theorem dX0_mendKeys_84 : decode cX0_mendKeys 84 = .ok (.invokevirtual 151, 3) := by decide +kernel
theorem dX0_mendKeys_87 : decode cX0_mendKeys 87 = .ok (.aload_n 0, 1) := by decide +kernel
theorem dX0_mendKeys_88 : decode cX0_mendKeys 88 = .ok (.getfield 28, 3) := by decide +kernel
theorem dX0_mendKeys_91 : decode cX0_mendKeys 91 = .ok (.getfield 84, 3) := by decide +kernel
theorem dX0_mendKeys_94 : decode cX0_mendKeys 94 = .ok (.iload_n 2, 1) := by decide +kernel
theorem dX0_mendKeys_95 : decode cX0_mendKeys 95 = .ok (.isub, 1) := by decide +kernel
theorem dX0_mendKeys_96 : decode cX0_mendKeys 96 = .ok (.ireturn, 1) := by decide +kernel
theorem dX0_whyShut_0 : decode cX0_whyShut 0 = .ok (.aload_n 0, 1) := by decide +kernel
theorem dX0_whyShut_1 : decode cX0_whyShut 1 = .ok (.getfield 21, 3) := by decide +kernel
theorem dX0_whyShut_4 : decode cX0_whyShut 4 = .ok (.iload_n 2, 1) := by decide +kernel
theorem dX0_whyShut_5 : decode cX0_whyShut 5 = .ok (.iload_n 1, 1) := by decide +kernel
theorem dX0_whyShut_6 : decode cX0_whyShut 6 = .ok (.invokevirtual 114, 3) := by decide +kernel
theorem dX0_whyShut_9 : decode cX0_whyShut 9 = .ok (.ifCond .eq 5, 3) := by decide +kernel
theorem dX0_whyShut_12 : decode cX0_whyShut 12 = .ok (.iconst 0, 1) := by decide +kernel
theorem dX0_whyShut_13 : decode cX0_whyShut 13 = .ok (.ireturn, 1) := by decide +kernel
theorem dX0_whyShut_14 : decode cX0_whyShut 14 = .ok (.aload_n 0, 1) := by decide +kernel
theorem dX0_whyShut_15 : decode cX0_whyShut 15 = .ok (.getfield 36, 3) := by decide +kernel
theorem dX0_whyShut_18 : decode cX0_whyShut 18 = .ok (.iload_n 1, 1) := by decide +kernel
theorem dX0_whyShut_19 : decode cX0_whyShut 19 = .ok (.iaload, 1) := by decide +kernel
theorem dX0_whyShut_20 : decode cX0_whyShut 20 = .ok (.iconst (-1), 1) := by decide +kernel
theorem dX0_whyShut_21 : decode cX0_whyShut 21 = .ok (.if_icmp .ne 5, 3) := by decide +kernel
theorem dX0_whyShut_24 : decode cX0_whyShut 24 = .ok (.iconst 1, 1) := by decide +kernel
theorem dX0_whyShut_25 : decode cX0_whyShut 25 = .ok (.ireturn, 1) := by decide +kernel
theorem dX0_whyShut_26 : decode cX0_whyShut 26 = .ok (.aload_n 0, 1) := by decide +kernel
theorem dX0_whyShut_27 : decode cX0_whyShut 27 = .ok (.getfield 21, 3) := by decide +kernel
theorem dX0_whyShut_30 : decode cX0_whyShut 30 = .ok (.iload_n 2, 1) := by decide +kernel
theorem dX0_whyShut_31 : decode cX0_whyShut 31 = .ok (.invokevirtual 182, 3) := by decide +kernel
theorem dX0_whyShut_34 : decode cX0_whyShut 34 = .ok (.aload_n 0, 1) := by decide +kernel
theorem dX0_whyShut_35 : decode cX0_whyShut 35 = .ok (.getfield 36, 3) := by decide +kernel
theorem dX0_whyShut_38 : decode cX0_whyShut 38 = .ok (.iload_n 1, 1) := by decide +kernel
theorem dX0_whyShut_39 : decode cX0_whyShut 39 = .ok (.iaload, 1) := by decide +kernel
theorem dX0_whyShut_40 : decode cX0_whyShut 40 = .ok (.if_icmp .ge 5, 3) := by decide +kernel
theorem dX0_whyShut_43 : decode cX0_whyShut 43 = .ok (.iconst 2, 1) := by decide +kernel
theorem dX0_whyShut_44 : decode cX0_whyShut 44 = .ok (.ireturn, 1) := by decide +kernel
theorem dX0_whyShut_45 : decode cX0_whyShut 45 = .ok (.aload_n 0, 1) := by decide +kernel
theorem dX0_whyShut_46 : decode cX0_whyShut 46 = .ok (.getfield 12, 3) := by decide +kernel
theorem dX0_whyShut_49 : decode cX0_whyShut 49 = .ok (.iload_n 1, 1) := by decide +kernel
theorem dX0_whyShut_50 : decode cX0_whyShut 50 = .ok (.invokevirtual 90, 3) := by decide +kernel
theorem dX0_whyShut_53 : decode cX0_whyShut 53 = .ok (.ifCond .ne 22, 3) := by decide +kernel
theorem dX0_whyShut_56 : decode cX0_whyShut 56 = .ok (.aload_n 0, 1) := by decide +kernel
theorem dX0_whyShut_57 : decode cX0_whyShut 57 = .ok (.getfield 21, 3) := by decide +kernel
theorem dX0_whyShut_60 : decode cX0_whyShut 60 = .ok (.iload_n 2, 1) := by decide +kernel
theorem dX0_whyShut_61 : decode cX0_whyShut 61 = .ok (.invokevirtual 182, 3) := by decide +kernel
theorem dX0_whyShut_64 : decode cX0_whyShut 64 = .ok (.aload_n 0, 1) := by decide +kernel
theorem dX0_whyShut_65 : decode cX0_whyShut 65 = .ok (.getfield 40, 3) := by decide +kernel
theorem dX0_whyShut_68 : decode cX0_whyShut 68 = .ok (.iload_n 1, 1) := by decide +kernel
theorem dX0_whyShut_69 : decode cX0_whyShut 69 = .ok (.iaload, 1) := by decide +kernel
theorem dX0_whyShut_70 : decode cX0_whyShut 70 = .ok (.if_icmp .lt 5, 3) := by decide +kernel
theorem dX0_whyShut_73 : decode cX0_whyShut 73 = .ok (.iconst 3, 1) := by decide +kernel
theorem dX0_whyShut_74 : decode cX0_whyShut 74 = .ok (.ireturn, 1) := by decide +kernel
theorem dX0_whyShut_75 : decode cX0_whyShut 75 = .ok (.iconst 4, 1) := by decide +kernel
theorem dX0_whyShut_76 : decode cX0_whyShut 76 = .ok (.ireturn, 1) := by decide +kernel
theorem dX0_lettersNeeded_0 : decode cX0_lettersNeeded 0 = .ok (.iconst 0, 1) := by decide +kernel
theorem dX0_lettersNeeded_1 : decode cX0_lettersNeeded 1 = .ok (.istore_n 2, 1) := by decide +kernel
theorem dX0_lettersNeeded_2 : decode cX0_lettersNeeded 2 = .ok (.iconst 0, 1) := by decide +kernel
theorem dX0_lettersNeeded_3 : decode cX0_lettersNeeded 3 = .ok (.istore_n 3, 1) := by decide +kernel
theorem dX0_lettersNeeded_4 : decode cX0_lettersNeeded 4 = .ok (.iload_n 3, 1) := by decide +kernel
theorem dX0_lettersNeeded_5 : decode cX0_lettersNeeded 5 = .ok (.aload_n 0, 1) := by decide +kernel
theorem dX0_lettersNeeded_6 : decode cX0_lettersNeeded 6 = .ok (.getfield 28, 3) := by decide +kernel
theorem dX0_lettersNeeded_9 : decode cX0_lettersNeeded 9 = .ok (.getfield 84, 3) := by decide +kernel
theorem dX0_lettersNeeded_12 : decode cX0_lettersNeeded 12 = .ok (.if_icmp .ge 71, 3) := by decide +kernel
theorem dX0_lettersNeeded_15 : decode cX0_lettersNeeded 15 = .ok (.aload_n 0, 1) := by decide +kernel
theorem dX0_lettersNeeded_16 : decode cX0_lettersNeeded 16 = .ok (.getfield 21, 3) := by decide +kernel
theorem dX0_lettersNeeded_19 : decode cX0_lettersNeeded 19 = .ok (.aload_n 0, 1) := by decide +kernel
theorem dX0_lettersNeeded_20 : decode cX0_lettersNeeded 20 = .ok (.getfield 28, 3) := by decide +kernel
theorem dX0_lettersNeeded_23 : decode cX0_lettersNeeded 23 = .ok (.getfield 171, 3) := by decide +kernel
theorem dX0_lettersNeeded_26 : decode cX0_lettersNeeded 26 = .ok (.iload_n 3, 1) := by decide +kernel
theorem dX0_lettersNeeded_27 : decode cX0_lettersNeeded 27 = .ok (.iaload, 1) := by decide +kernel
theorem dX0_lettersNeeded_28 : decode cX0_lettersNeeded 28 = .ok (.invokevirtual 185, 3) := by decide +kernel
theorem dX0_lettersNeeded_31 : decode cX0_lettersNeeded 31 = .ok (.istore 4, 2) := by decide +kernel
theorem dX0_lettersNeeded_33 : decode cX0_lettersNeeded 33 = .ok (.aload_n 0, 1) := by decide +kernel
theorem dX0_lettersNeeded_34 : decode cX0_lettersNeeded 34 = .ok (.getfield 28, 3) := by decide +kernel
theorem dX0_lettersNeeded_37 : decode cX0_lettersNeeded 37 = .ok (.getfield 188, 3) := by decide +kernel
theorem dX0_lettersNeeded_40 : decode cX0_lettersNeeded 40 = .ok (.iload_n 3, 1) := by decide +kernel
theorem dX0_lettersNeeded_41 : decode cX0_lettersNeeded 41 = .ok (.iaload, 1) := by decide +kernel
theorem dX0_lettersNeeded_42 : decode cX0_lettersNeeded 42 = .ok (.aload_n 0, 1) := by decide +kernel
theorem dX0_lettersNeeded_43 : decode cX0_lettersNeeded 43 = .ok (.getfield 71, 3) := by decide +kernel
theorem dX0_lettersNeeded_46 : decode cX0_lettersNeeded 46 = .ok (.iconst 1, 1) := by decide +kernel
theorem dX0_lettersNeeded_47 : decode cX0_lettersNeeded 47 = .ok (.isub, 1) := by decide +kernel
theorem dX0_lettersNeeded_48 : decode cX0_lettersNeeded 48 = .ok (.if_icmp .ne 29, 3) := by decide +kernel
theorem dX0_lettersNeeded_51 : decode cX0_lettersNeeded 51 = .ok (.iload 4, 2) := by decide +kernel
theorem dX0_lettersNeeded_53 : decode cX0_lettersNeeded 53 = .ok (.iconst 1, 1) := by decide +kernel
theorem dX0_lettersNeeded_54 : decode cX0_lettersNeeded 54 = .ok (.if_icmp .le 23, 3) := by decide +kernel
theorem dX0_lettersNeeded_57 : decode cX0_lettersNeeded 57 = .ok (.aload_n 0, 1) := by decide +kernel
theorem dX0_lettersNeeded_58 : decode cX0_lettersNeeded 58 = .ok (.getfield 12, 3) := by decide +kernel
theorem dX0_lettersNeeded_61 : decode cX0_lettersNeeded 61 = .ok (.getfield 190, 3) := by decide +kernel
theorem dX0_lettersNeeded_64 : decode cX0_lettersNeeded 64 = .ok (.iload 4, 2) := by decide +kernel
theorem dX0_lettersNeeded_66 : decode cX0_lettersNeeded 66 = .ok (.iaload, 1) := by decide +kernel
theorem dX0_lettersNeeded_67 : decode cX0_lettersNeeded 67 = .ok (.iload_n 1, 1) := by decide +kernel
theorem dX0_lettersNeeded_68 : decode cX0_lettersNeeded 68 = .ok (.invokestatic 94, 3) := by decide +kernel
theorem dX0_lettersNeeded_71 : decode cX0_lettersNeeded 71 = .ok (.ifCond .eq 6, 3) := by decide +kernel
theorem dX0_lettersNeeded_74 : decode cX0_lettersNeeded 74 = .ok (.iinc 2 1, 3) := by decide +kernel
theorem dX0_lettersNeeded_77 : decode cX0_lettersNeeded 77 = .ok (.iinc 3 1, 3) := by decide +kernel
theorem dX0_lettersNeeded_80 : decode cX0_lettersNeeded 80 = .ok (.goto (-76), 3) := by decide +kernel
theorem dX0_lettersNeeded_83 : decode cX0_lettersNeeded 83 = .ok (.iload_n 2, 1) := by decide +kernel
theorem dX0_lettersNeeded_84 : decode cX0_lettersNeeded 84 = .ok (.ireturn, 1) := by decide +kernel
theorem dX1_init_0 : decode cX1_init 0 = .ok (.aload_n 0, 1) := by decide +kernel
theorem dX1_init_1 : decode cX1_init 1 = .ok (.invokespecial 3, 3) := by decide +kernel
theorem dX1_init_4 : decode cX1_init 4 = .ok (.aload_n 0, 1) := by decide +kernel
theorem dX1_init_5 : decode cX1_init 5 = .ok (.sipush 232, 3) := by decide +kernel
theorem dX1_init_8 : decode cX1_init 8 = .ok (.newarray .int, 2) := by decide +kernel
theorem dX1_init_10 : decode cX1_init 10 = .ok (.putfield 9, 3) := by decide +kernel
theorem dX1_init_13 : decode cX1_init 13 = .ok (.aload_n 0, 1) := by decide +kernel
theorem dX1_init_14 : decode cX1_init 14 = .ok (.sipush 232, 3) := by decide +kernel
theorem dX1_init_17 : decode cX1_init 17 = .ok (.newarray .int, 2) := by decide +kernel
theorem dX1_init_19 : decode cX1_init 19 = .ok (.putfield 15, 3) := by decide +kernel
theorem dX1_init_22 : decode cX1_init 22 = .ok (.aload_n 0, 1) := by decide +kernel
theorem dX1_init_23 : decode cX1_init 23 = .ok (.sipush 232, 3) := by decide +kernel
theorem dX1_init_26 : decode cX1_init 26 = .ok (.newarray .int, 2) := by decide +kernel
theorem dX1_init_28 : decode cX1_init 28 = .ok (.putfield 18, 3) := by decide +kernel
theorem dX1_init_31 : decode cX1_init 31 = .ok (.aload_n 0, 1) := by decide +kernel
theorem dX1_init_32 : decode cX1_init 32 = .ok (.bipush 32, 2) := by decide +kernel
theorem dX1_init_34 : decode cX1_init 34 = .ok (.newarray .int, 2) := by decide +kernel
theorem dX1_init_36 : decode cX1_init 36 = .ok (.putfield 21, 3) := by decide +kernel
theorem dX1_init_39 : decode cX1_init 39 = .ok (.aload_n 0, 1) := by decide +kernel
theorem dX1_init_40 : decode cX1_init 40 = .ok (.getfield 21, 3) := by decide +kernel
theorem dX1_init_43 : decode cX1_init 43 = .ok (.bipush (-4), 2) := by decide +kernel
theorem dX1_init_45 : decode cX1_init 45 = .ok (.invokestatic 24, 3) := by decide +kernel
theorem dX1_init_48 : decode cX1_init 48 = .ok (.return_, 1) := by decide +kernel
theorem dX1_take_0 : decode cX1_take 0 = .ok (.aload_n 0, 1) := by decide +kernel
theorem dX1_take_1 : decode cX1_take 1 = .ok (.aload_n 1, 1) := by decide +kernel
theorem dX1_take_2 : decode cX1_take 2 = .ok (.getfield 30, 3) := by decide +kernel
theorem dX1_take_5 : decode cX1_take 5 = .ok (.putfield 30, 3) := by decide +kernel
theorem dX1_take_8 : decode cX1_take 8 = .ok (.aload_n 1, 1) := by decide +kernel
theorem dX1_take_9 : decode cX1_take 9 = .ok (.getfield 9, 3) := by decide +kernel
theorem dX1_take_12 : decode cX1_take 12 = .ok (.iconst 0, 1) := by decide +kernel
theorem dX1_take_13 : decode cX1_take 13 = .ok (.aload_n 0, 1) := by decide +kernel
theorem dX1_take_14 : decode cX1_take 14 = .ok (.getfield 9, 3) := by decide +kernel
theorem dX1_take_17 : decode cX1_take 17 = .ok (.iconst 0, 1) := by decide +kernel
theorem dX1_take_18 : decode cX1_take 18 = .ok (.sipush 232, 3) := by decide +kernel
theorem dX1_take_21 : decode cX1_take 21 = .ok (.invokestatic 34, 3) := by decide +kernel
theorem dX1_take_24 : decode cX1_take 24 = .ok (.aload_n 1, 1) := by decide +kernel
theorem dX1_take_25 : decode cX1_take 25 = .ok (.getfield 15, 3) := by decide +kernel
theorem dX1_take_28 : decode cX1_take 28 = .ok (.iconst 0, 1) := by decide +kernel
theorem dX1_take_29 : decode cX1_take 29 = .ok (.aload_n 0, 1) := by decide +kernel
theorem dX1_take_30 : decode cX1_take 30 = .ok (.getfield 15, 3) := by decide +kernel
theorem dX1_take_33 : decode cX1_take 33 = .ok (.iconst 0, 1) := by decide +kernel
theorem dX1_take_34 : decode cX1_take 34 = .ok (.sipush 232, 3) := by decide +kernel
theorem dX1_take_37 : decode cX1_take 37 = .ok (.invokestatic 34, 3) := by decide +kernel
theorem dX1_take_40 : decode cX1_take 40 = .ok (.aload_n 1, 1) := by decide +kernel
theorem dX1_take_41 : decode cX1_take 41 = .ok (.getfield 18, 3) := by decide +kernel
theorem dX1_take_44 : decode cX1_take 44 = .ok (.iconst 0, 1) := by decide +kernel
theorem dX1_take_45 : decode cX1_take 45 = .ok (.aload_n 0, 1) := by decide +kernel
theorem dX1_take_46 : decode cX1_take 46 = .ok (.getfield 18, 3) := by decide +kernel
theorem dX1_take_49 : decode cX1_take 49 = .ok (.iconst 0, 1) := by decide +kernel
theorem dX1_take_50 : decode cX1_take 50 = .ok (.sipush 232, 3) := by decide +kernel
theorem dX1_take_53 : decode cX1_take 53 = .ok (.invokestatic 34, 3) := by decide +kernel
theorem dX1_take_56 : decode cX1_take 56 = .ok (.aload_n 1, 1) := by decide +kernel
theorem dX1_take_57 : decode cX1_take 57 = .ok (.getfield 21, 3) := by decide +kernel
theorem dX1_take_60 : decode cX1_take 60 = .ok (.iconst 0, 1) := by decide +kernel
theorem dX1_take_61 : decode cX1_take 61 = .ok (.aload_n 0, 1) := by decide +kernel
theorem dX1_take_62 : decode cX1_take 62 = .ok (.getfield 21, 3) := by decide +kernel
theorem dX1_take_65 : decode cX1_take 65 = .ok (.iconst 0, 1) := by decide +kernel
theorem dX1_take_66 : decode cX1_take 66 = .ok (.bipush 32, 2) := by decide +kernel
theorem dX1_take_68 : decode cX1_take 68 = .ok (.invokestatic 34, 3) := by decide +kernel
theorem dX1_take_71 : decode cX1_take 71 = .ok (.return_, 1) := by decide +kernel
theorem dX1_clear_0 : decode cX1_clear 0 = .ok (.aload_n 0, 1) := by decide +kernel
theorem dX1_clear_1 : decode cX1_clear 1 = .ok (.iconst 0, 1) := by decide +kernel
theorem dX1_clear_2 : decode cX1_clear 2 = .ok (.putfield 30, 3) := by decide +kernel
theorem dX1_clear_5 : decode cX1_clear 5 = .ok (.aload_n 0, 1) := by decide +kernel
theorem dX1_clear_6 : decode cX1_clear 6 = .ok (.getfield 21, 3) := by decide +kernel
theorem dX1_clear_9 : decode cX1_clear 9 = .ok (.bipush (-4), 2) := by decide +kernel
theorem dX1_clear_11 : decode cX1_clear 11 = .ok (.invokestatic 24, 3) := by decide +kernel
theorem dX1_clear_14 : decode cX1_clear 14 = .ok (.return_, 1) := by decide +kernel
theorem dX1_known_0 : decode cX1_known 0 = .ok (.iload_n 1, 1) := by decide +kernel
theorem dX1_known_1 : decode cX1_known 1 = .ok (.ifCond .lt 15, 3) := by decide +kernel
theorem dX1_known_4 : decode cX1_known 4 = .ok (.iload_n 1, 1) := by decide +kernel
theorem dX1_known_5 : decode cX1_known 5 = .ok (.aload_n 0, 1) := by decide +kernel
theorem dX1_known_6 : decode cX1_known 6 = .ok (.getfield 30, 3) := by decide +kernel
theorem dX1_known_9 : decode cX1_known 9 = .ok (.if_icmp .ge 7, 3) := by decide +kernel
theorem dX1_known_12 : decode cX1_known 12 = .ok (.iconst 1, 1) := by decide +kernel
theorem dX1_known_13 : decode cX1_known 13 = .ok (.goto 4, 3) := by decide +kernel
theorem dX1_known_16 : decode cX1_known 16 = .ok (.iconst 0, 1) := by decide +kernel
theorem dX1_known_17 : decode cX1_known 17 = .ok (.ireturn, 1) := by decide +kernel
theorem dX1_renew_0 : decode cX1_renew 0 = .ok (.bipush 31, 2) := by decide +kernel
theorem dX1_renew_2 : decode cX1_renew 2 = .ok (.istore 4, 2) := by decide +kernel
theorem dX1_renew_4 : decode cX1_renew 4 = .ok (.iload 4, 2) := by decide +kernel
theorem dX1_renew_6 : decode cX1_renew 6 = .ok (.iconst 1, 1) := by decide +kernel
theorem dX1_renew_7 : decode cX1_renew 7 = .ok (.if_icmp .lt 53, 3) := by decide +kernel
theorem dX1_renew_10 : decode cX1_renew 10 = .ok (.aload_n 1, 1) := by decide +kernel
theorem dX1_renew_11 : decode cX1_renew 11 = .ok (.iload 4, 2) := by decide +kernel
theorem dX1_renew_13 : decode cX1_renew 13 = .ok (.invokevirtual 40, 3) := by decide +kernel
theorem dX1_renew_16 : decode cX1_renew 16 = .ok (.ifCond .ne 15, 3) := by decide +kernel
theorem dX1_renew_19 : decode cX1_renew 19 = .ok (.aload_n 0, 1) := by decide +kernel
theorem dX1_renew_20 : decode cX1_renew 20 = .ok (.getfield 21, 3) := by decide +kernel
theorem dX1_renew_23 : decode cX1_renew 23 = .ok (.iload 4, 2) := by decide +kernel
theorem dX1_renew_25 : decode cX1_renew 25 = .ok (.bipush (-4), 2) := by decide +kernel
theorem dX1_renew_27 : decode cX1_renew 27 = .ok (.iastore, 1) := by decide +kernel
theorem dX1_renew_28 : decode cX1_renew 28 = .ok (.goto 26, 3) := by decide +kernel
theorem dX1_renew_31 : decode cX1_renew 31 = .ok (.iload_n 2, 1) := by decide +kernel
theorem dX1_renew_32 : decode cX1_renew 32 = .ok (.iload 4, 2) := by decide +kernel
theorem dX1_renew_34 : decode cX1_renew 34 = .ok (.invokestatic 46, 3) := by decide +kernel
theorem dX1_renew_37 : decode cX1_renew 37 = .ok (.ifCond .eq 17, 3) := by decide +kernel
theorem dX1_renew_40 : decode cX1_renew 40 = .ok (.aload_n 0, 1) := by decide +kernel
theorem dX1_renew_41 : decode cX1_renew 41 = .ok (.getfield 21, 3) := by decide +kernel
theorem dX1_renew_44 : decode cX1_renew 44 = .ok (.iload 4, 2) := by decide +kernel
theorem dX1_renew_46 : decode cX1_renew 46 = .ok (.aload_n 0, 1) := by decide +kernel
theorem dX1_renew_47 : decode cX1_renew 47 = .ok (.iload 4, 2) := by decide +kernel
theorem dX1_renew_49 : decode cX1_renew 49 = .ok (.iload_n 3, 1) := by decide +kernel
theorem dX1_renew_50 : decode cX1_renew 50 = .ok (.invokevirtual 50, 3) := by decide +kernel
theorem dX1_renew_53 : decode cX1_renew 53 = .ok (.iastore, 1) := by decide +kernel
theorem dX1_renew_54 : decode cX1_renew 54 = .ok (.iinc 4 (-1), 3) := by decide +kernel
theorem dX1_renew_57 : decode cX1_renew 57 = .ok (.goto (-53), 3) := by decide +kernel
theorem dX1_renew_60 : decode cX1_renew 60 = .ok (.return_, 1) := by decide +kernel
theorem dX1_add_0 : decode cX1_add 0 = .ok (.aload_n 0, 1) := by decide +kernel
theorem dX1_add_1 : decode cX1_add 1 = .ok (.getfield 30, 3) := by decide +kernel
theorem dX1_add_4 : decode cX1_add 4 = .ok (.sipush 232, 3) := by decide +kernel
theorem dX1_add_7 : decode cX1_add 7 = .ok (.if_icmp .lt 6, 3) := by decide +kernel
theorem dX1_add_10 : decode cX1_add 10 = .ok (.bipush (-4), 2) := by decide +kernel
theorem dX1_add_12 : decode cX1_add 12 = .ok (.ireturn, 1) := by decide +kernel
theorem dX1_add_13 : decode cX1_add 13 = .ok (.aload_n 0, 1) := by decide +kernel
theorem dX1_add_14 : decode cX1_add 14 = .ok (.getfield 9, 3) := by decide +kernel
theorem dX1_add_17 : decode cX1_add 17 = .ok (.aload_n 0, 1) := by decide +kernel
theorem dX1_add_18 : decode cX1_add 18 = .ok (.getfield 30, 3) := by decide +kernel
theorem dX1_add_21 : decode cX1_add 21 = .ok (.iload_n 1, 1) := by decide +kernel
theorem dX1_add_22 : decode cX1_add 22 = .ok (.iastore, 1) := by decide +kernel
theorem dX1_add_23 : decode cX1_add 23 = .ok (.aload_n 0, 1) := by decide +kernel
theorem dX1_add_24 : decode cX1_add 24 = .ok (.getfield 15, 3) := by decide +kernel
theorem dX1_add_27 : decode cX1_add 27 = .ok (.aload_n 0, 1) := by decide +kernel
theorem dX1_add_28 : decode cX1_add 28 = .ok (.getfield 30, 3) := by decide +kernel
theorem dX1_add_31 : decode cX1_add 31 = .ok (.iload_n 2, 1) := by decide +kernel
theorem dX1_add_32 : decode cX1_add 32 = .ok (.iastore, 1) := by decide +kernel
theorem dX1_add_33 : decode cX1_add 33 = .ok (.aload_n 0, 1) := by decide +kernel
theorem dX1_add_34 : decode cX1_add 34 = .ok (.getfield 18, 3) := by decide +kernel
theorem dX1_add_37 : decode cX1_add 37 = .ok (.aload_n 0, 1) := by decide +kernel
theorem dX1_add_38 : decode cX1_add 38 = .ok (.getfield 30, 3) := by decide +kernel
theorem dX1_add_41 : decode cX1_add 41 = .ok (.iconst 0, 1) := by decide +kernel
theorem dX1_add_42 : decode cX1_add 42 = .ok (.iastore, 1) := by decide +kernel
theorem dX1_add_43 : decode cX1_add 43 = .ok (.aload_n 0, 1) := by decide +kernel
theorem dX1_add_44 : decode cX1_add 44 = .ok (.dup, 1) := by decide +kernel
theorem dX1_add_45 : decode cX1_add 45 = .ok (.getfield 30, 3) := by decide +kernel
theorem dX1_add_48 : decode cX1_add 48 = .ok (.iconst 1, 1) := by decide +kernel
theorem dX1_add_49 : decode cX1_add 49 = .ok (.iadd, 1) := by decide +kernel
theorem dX1_add_50 : decode cX1_add 50 = .ok (.putfield 30, 3) := by decide +kernel
theorem dX1_add_53 : decode cX1_add 53 = .ok (.aload_n 0, 1) := by decide +kernel
theorem dX1_add_54 : decode cX1_add 54 = .ok (.getfield 30, 3) := by decide +kernel
theorem dX1_add_57 : decode cX1_add 57 = .ok (.iconst 1, 1) := by decide +kernel
theorem dX1_add_58 : decode cX1_add 58 = .ok (.isub, 1) := by decide +kernel
theorem dX1_add_59 : decode cX1_add 59 = .ok (.ireturn, 1) := by decide +kernel
theorem dX1_give_0 : decode cX1_give 0 = .ok (.aload_n 0, 1) := by decide +kernel
theorem dX1_give_1 : decode cX1_give 1 = .ok (.iload_n 1, 1) := by decide +kernel
theorem dX1_give_2 : decode cX1_give 2 = .ok (.invokevirtual 54, 3) := by decide +kernel
theorem dX1_give_5 : decode cX1_give 5 = .ok (.ifCond .eq 15, 3) := by decide +kernel
theorem dX1_give_8 : decode cX1_give 8 = .ok (.aload_n 0, 1) := by decide +kernel
theorem dX1_give_9 : decode cX1_give 9 = .ok (.getfield 18, 3) := by decide +kernel
theorem dX1_give_12 : decode cX1_give 12 = .ok (.iload_n 1, 1) := by decide +kernel
theorem dX1_give_13 : decode cX1_give 13 = .ok (.dup2, 1) := by decide +kernel
theorem dX1_give_14 : decode cX1_give 14 = .ok (.iaload, 1) := by decide +kernel
theorem dX1_give_15 : decode cX1_give 15 = .ok (.iconst 1, 1) := by decide +kernel
theorem dX1_give_16 : decode cX1_give 16 = .ok (.iload_n 2, 1) := by decide +kernel
theorem dX1_give_17 : decode cX1_give 17 = .ok (.ishl, 1) := by decide +kernel
theorem dX1_give_18 : decode cX1_give 18 = .ok (.ior, 1) := by decide +kernel
theorem dX1_give_19 : decode cX1_give 19 = .ok (.iastore, 1) := by decide +kernel
theorem dX1_give_20 : decode cX1_give 20 = .ok (.return_, 1) := by decide +kernel
theorem dX1_nodeOf_0 : decode cX1_nodeOf 0 = .ok (.aload_n 0, 1) := by decide +kernel
theorem dX1_nodeOf_1 : decode cX1_nodeOf 1 = .ok (.iload_n 1, 1) := by decide +kernel
theorem dX1_nodeOf_2 : decode cX1_nodeOf 2 = .ok (.invokevirtual 54, 3) := by decide +kernel
theorem dX1_nodeOf_5 : decode cX1_nodeOf 5 = .ok (.ifCond .eq 12, 3) := by decide +kernel
theorem dX1_nodeOf_8 : decode cX1_nodeOf 8 = .ok (.aload_n 0, 1) := by decide +kernel
theorem dX1_nodeOf_9 : decode cX1_nodeOf 9 = .ok (.getfield 9, 3) := by decide +kernel
theorem dX1_nodeOf_12 : decode cX1_nodeOf 12 = .ok (.iload_n 1, 1) := by decide +kernel
theorem dX1_nodeOf_13 : decode cX1_nodeOf 13 = .ok (.iaload, 1) := by decide +kernel
theorem dX1_nodeOf_14 : decode cX1_nodeOf 14 = .ok (.goto 5, 3) := by decide +kernel
theorem dX1_nodeOf_17 : decode cX1_nodeOf 17 = .ok (.bipush (-4), 2) := by decide +kernel
theorem dX1_nodeOf_19 : decode cX1_nodeOf 19 = .ok (.ireturn, 1) := by decide +kernel
theorem dX1_batchOf_0 : decode cX1_batchOf 0 = .ok (.aload_n 0, 1) := by decide +kernel
theorem dX1_batchOf_1 : decode cX1_batchOf 1 = .ok (.iload_n 1, 1) := by decide +kernel
theorem dX1_batchOf_2 : decode cX1_batchOf 2 = .ok (.invokevirtual 54, 3) := by decide +kernel
theorem dX1_batchOf_5 : decode cX1_batchOf 5 = .ok (.ifCond .eq 12, 3) := by decide +kernel
theorem dX1_batchOf_8 : decode cX1_batchOf 8 = .ok (.aload_n 0, 1) := by decide +kernel
theorem dX1_batchOf_9 : decode cX1_batchOf 9 = .ok (.getfield 15, 3) := by decide +kernel
theorem dX1_batchOf_12 : decode cX1_batchOf 12 = .ok (.iload_n 1, 1) := by decide +kernel
theorem dX1_batchOf_13 : decode cX1_batchOf 13 = .ok (.iaload, 1) := by decide +kernel
theorem dX1_batchOf_14 : decode cX1_batchOf 14 = .ok (.goto 4, 3) := by decide +kernel
theorem dX1_batchOf_17 : decode cX1_batchOf 17 = .ok (.iconst (-1), 1) := by decide +kernel
theorem dX1_batchOf_18 : decode cX1_batchOf 18 = .ok (.ireturn, 1) := by decide +kernel
theorem dX1_holdersOf_0 : decode cX1_holdersOf 0 = .ok (.aload_n 0, 1) := by decide +kernel
theorem dX1_holdersOf_1 : decode cX1_holdersOf 1 = .ok (.iload_n 1, 1) := by decide +kernel
theorem dX1_holdersOf_2 : decode cX1_holdersOf 2 = .ok (.invokevirtual 54, 3) := by decide +kernel
theorem dX1_holdersOf_5 : decode cX1_holdersOf 5 = .ok (.ifCond .eq 12, 3) := by decide +kernel
theorem dX1_holdersOf_8 : decode cX1_holdersOf 8 = .ok (.aload_n 0, 1) := by decide +kernel
theorem dX1_holdersOf_9 : decode cX1_holdersOf 9 = .ok (.getfield 18, 3) := by decide +kernel
theorem dX1_holdersOf_12 : decode cX1_holdersOf 12 = .ok (.iload_n 1, 1) := by decide +kernel
theorem dX1_holdersOf_13 : decode cX1_holdersOf 13 = .ok (.iaload, 1) := by decide +kernel
theorem dX1_holdersOf_14 : decode cX1_holdersOf 14 = .ok (.goto 4, 3) := by decide +kernel
theorem dX1_holdersOf_17 : decode cX1_holdersOf 17 = .ok (.iconst 0, 1) := by decide +kernel
theorem dX1_holdersOf_18 : decode cX1_holdersOf 18 = .ok (.ireturn, 1) := by decide +kernel
theorem dX1_held_0 : decode cX1_held 0 = .ok (.aload_n 0, 1) := by decide +kernel
theorem dX1_held_1 : decode cX1_held 1 = .ok (.iload_n 1, 1) := by decide +kernel
theorem dX1_held_2 : decode cX1_held 2 = .ok (.invokevirtual 57, 3) := by decide +kernel
theorem dX1_held_5 : decode cX1_held 5 = .ok (.iload_n 2, 1) := by decide +kernel
theorem dX1_held_6 : decode cX1_held 6 = .ok (.invokestatic 46, 3) := by decide +kernel
theorem dX1_held_9 : decode cX1_held 9 = .ok (.ireturn, 1) := by decide +kernel
theorem dX1_heldBy_0 : decode cX1_heldBy 0 = .ok (.iconst 0, 1) := by decide +kernel
theorem dX1_heldBy_1 : decode cX1_heldBy 1 = .ok (.istore_n 2, 1) := by decide +kernel
theorem dX1_heldBy_2 : decode cX1_heldBy 2 = .ok (.iconst 0, 1) := by decide +kernel
theorem dX1_heldBy_3 : decode cX1_heldBy 3 = .ok (.istore_n 3, 1) := by decide +kernel
theorem dX1_heldBy_4 : decode cX1_heldBy 4 = .ok (.iload_n 3, 1) := by decide +kernel
theorem dX1_heldBy_5 : decode cX1_heldBy 5 = .ok (.aload_n 0, 1) := by decide +kernel
theorem dX1_heldBy_6 : decode cX1_heldBy 6 = .ok (.getfield 30, 3) := by decide +kernel
theorem dX1_heldBy_9 : decode cX1_heldBy 9 = .ok (.if_icmp .ge 22, 3) := by decide +kernel
theorem dX1_heldBy_12 : decode cX1_heldBy 12 = .ok (.iload_n 2, 1) := by decide +kernel
theorem dX1_heldBy_13 : decode cX1_heldBy 13 = .ok (.aload_n 0, 1) := by decide +kernel
theorem dX1_heldBy_14 : decode cX1_heldBy 14 = .ok (.getfield 18, 3) := by decide +kernel
theorem dX1_heldBy_17 : decode cX1_heldBy 17 = .ok (.iload_n 3, 1) := by decide +kernel
theorem dX1_heldBy_18 : decode cX1_heldBy 18 = .ok (.iaload, 1) := by decide +kernel
theorem dX1_heldBy_19 : decode cX1_heldBy 19 = .ok (.iload_n 1, 1) := by decide +kernel
theorem dX1_heldBy_20 : decode cX1_heldBy 20 = .ok (.invokestatic 61, 3) := by decide +kernel
theorem dX1_heldBy_23 : decode cX1_heldBy 23 = .ok (.iadd, 1) := by decide +kernel
theorem dX1_heldBy_24 : decode cX1_heldBy 24 = .ok (.istore_n 2, 1) := by decide +kernel
theorem dX1_heldBy_25 : decode cX1_heldBy 25 = .ok (.iinc 3 1, 3) := by decide +kernel
theorem dX1_heldBy_28 : decode cX1_heldBy 28 = .ok (.goto (-24), 3) := by decide +kernel
theorem dX1_heldBy_31 : decode cX1_heldBy 31 = .ok (.iload_n 2, 1) := by decide +kernel
theorem dX1_heldBy_32 : decode cX1_heldBy 32 = .ok (.ireturn, 1) := by decide +kernel
theorem dX2_init_0 : decode cX2_init 0 = .ok (.aload_n 0, 1) := by decide +kernel
theorem dX2_init_1 : decode cX2_init 1 = .ok (.invokespecial 3, 3) := by decide +kernel
theorem dX2_init_4 : decode cX2_init 4 = .ok (.aload_n 0, 1) := by decide +kernel
theorem dX2_init_5 : decode cX2_init 5 = .ok (.sipush 192, 3) := by decide +kernel
theorem dX2_init_8 : decode cX2_init 8 = .ok (.newarray .int, 2) := by decide +kernel
theorem dX2_init_10 : decode cX2_init 10 = .ok (.putfield 9, 3) := by decide +kernel
theorem dX2_init_13 : decode cX2_init 13 = .ok (.aload_n 0, 1) := by decide +kernel
theorem dX2_init_14 : decode cX2_init 14 = .ok (.sipush 192, 3) := by decide +kernel
theorem dX2_init_17 : decode cX2_init 17 = .ok (.newarray .int, 2) := by decide +kernel
theorem dX2_init_19 : decode cX2_init 19 = .ok (.putfield 15, 3) := by decide +kernel
theorem dX2_init_22 : decode cX2_init 22 = .ok (.aload_n 0, 1) := by decide +kernel
theorem dX2_init_23 : decode cX2_init 23 = .ok (.sipush 192, 3) := by decide +kernel
theorem dX2_init_26 : decode cX2_init 26 = .ok (.newarray .int, 2) := by decide +kernel
theorem dX2_init_28 : decode cX2_init 28 = .ok (.putfield 18, 3) := by decide +kernel
theorem dX2_init_31 : decode cX2_init 31 = .ok (.return_, 1) := by decide +kernel
theorem dX2_take_0 : decode cX2_take 0 = .ok (.aload_n 0, 1) := by decide +kernel
theorem dX2_take_1 : decode cX2_take 1 = .ok (.aload_n 1, 1) := by decide +kernel
theorem dX2_take_2 : decode cX2_take 2 = .ok (.getfield 21, 3) := by decide +kernel
theorem dX2_take_5 : decode cX2_take 5 = .ok (.putfield 21, 3) := by decide +kernel
theorem dX2_take_8 : decode cX2_take 8 = .ok (.aload_n 1, 1) := by decide +kernel
theorem dX2_take_9 : decode cX2_take 9 = .ok (.getfield 9, 3) := by decide +kernel
theorem dX2_take_12 : decode cX2_take 12 = .ok (.iconst 0, 1) := by decide +kernel
theorem dX2_take_13 : decode cX2_take 13 = .ok (.aload_n 0, 1) := by decide +kernel
theorem dX2_take_14 : decode cX2_take 14 = .ok (.getfield 9, 3) := by decide +kernel
theorem dX2_take_17 : decode cX2_take 17 = .ok (.iconst 0, 1) := by decide +kernel
theorem dX2_take_18 : decode cX2_take 18 = .ok (.sipush 192, 3) := by decide +kernel
theorem dX2_take_21 : decode cX2_take 21 = .ok (.invokestatic 25, 3) := by decide +kernel
theorem dX2_take_24 : decode cX2_take 24 = .ok (.aload_n 1, 1) := by decide +kernel
theorem dX2_take_25 : decode cX2_take 25 = .ok (.getfield 15, 3) := by decide +kernel
theorem dX2_take_28 : decode cX2_take 28 = .ok (.iconst 0, 1) := by decide +kernel
theorem dX2_take_29 : decode cX2_take 29 = .ok (.aload_n 0, 1) := by decide +kernel
theorem dX2_take_30 : decode cX2_take 30 = .ok (.getfield 15, 3) := by decide +kernel
theorem dX2_take_33 : decode cX2_take 33 = .ok (.iconst 0, 1) := by decide +kernel
theorem dX2_take_34 : decode cX2_take 34 = .ok (.sipush 192, 3) := by decide +kernel
theorem dX2_take_37 : decode cX2_take 37 = .ok (.invokestatic 25, 3) := by decide +kernel
theorem dX2_take_40 : decode cX2_take 40 = .ok (.aload_n 1, 1) := by decide +kernel
theorem dX2_take_41 : decode cX2_take 41 = .ok (.getfield 18, 3) := by decide +kernel
theorem dX2_take_44 : decode cX2_take 44 = .ok (.iconst 0, 1) := by decide +kernel
theorem dX2_take_45 : decode cX2_take 45 = .ok (.aload_n 0, 1) := by decide +kernel
theorem dX2_take_46 : decode cX2_take 46 = .ok (.getfield 18, 3) := by decide +kernel
theorem dX2_take_49 : decode cX2_take 49 = .ok (.iconst 0, 1) := by decide +kernel
theorem dX2_take_50 : decode cX2_take 50 = .ok (.sipush 192, 3) := by decide +kernel
theorem dX2_take_53 : decode cX2_take 53 = .ok (.invokestatic 25, 3) := by decide +kernel
theorem dX2_take_56 : decode cX2_take 56 = .ok (.return_, 1) := by decide +kernel
theorem dX2_known_0 : decode cX2_known 0 = .ok (.iload_n 1, 1) := by decide +kernel
theorem dX2_known_1 : decode cX2_known 1 = .ok (.ifCond .lt 15, 3) := by decide +kernel
theorem dX2_known_4 : decode cX2_known 4 = .ok (.iload_n 1, 1) := by decide +kernel
theorem dX2_known_5 : decode cX2_known 5 = .ok (.aload_n 0, 1) := by decide +kernel
theorem dX2_known_6 : decode cX2_known 6 = .ok (.getfield 21, 3) := by decide +kernel
theorem dX2_known_9 : decode cX2_known 9 = .ok (.if_icmp .ge 7, 3) := by decide +kernel
theorem dX2_known_12 : decode cX2_known 12 = .ok (.iconst 1, 1) := by decide +kernel
theorem dX2_known_13 : decode cX2_known 13 = .ok (.goto 4, 3) := by decide +kernel
theorem dX2_known_16 : decode cX2_known 16 = .ok (.iconst 0, 1) := by decide +kernel
theorem dX2_known_17 : decode cX2_known 17 = .ok (.ireturn, 1) := by decide +kernel
theorem dX2_add_0 : decode cX2_add 0 = .ok (.aload_n 0, 1) := by decide +kernel
theorem dX2_add_1 : decode cX2_add 1 = .ok (.getfield 21, 3) := by decide +kernel
theorem dX2_add_4 : decode cX2_add 4 = .ok (.sipush 192, 3) := by decide +kernel
theorem dX2_add_7 : decode cX2_add 7 = .ok (.if_icmp .lt 4, 3) := by decide +kernel
theorem dX2_add_10 : decode cX2_add 10 = .ok (.return_, 1) := by decide +kernel
theorem dX2_add_11 : decode cX2_add 11 = .ok (.aload_n 0, 1) := by decide +kernel
theorem dX2_add_12 : decode cX2_add 12 = .ok (.getfield 9, 3) := by decide +kernel
theorem dX2_add_15 : decode cX2_add 15 = .ok (.aload_n 0, 1) := by decide +kernel
theorem dX2_add_16 : decode cX2_add 16 = .ok (.getfield 21, 3) := by decide +kernel
theorem dX2_add_19 : decode cX2_add 19 = .ok (.iload_n 1, 1) := by decide +kernel
theorem dX2_add_20 : decode cX2_add 20 = .ok (.iastore, 1) := by decide +kernel
theorem dX2_add_21 : decode cX2_add 21 = .ok (.aload_n 0, 1) := by decide +kernel
theorem dX2_add_22 : decode cX2_add 22 = .ok (.getfield 15, 3) := by decide +kernel
theorem dX2_add_25 : decode cX2_add 25 = .ok (.aload_n 0, 1) := by decide +kernel
theorem dX2_add_26 : decode cX2_add 26 = .ok (.getfield 21, 3) := by decide +kernel
theorem dX2_add_29 : decode cX2_add 29 = .ok (.iload_n 2, 1) := by decide +kernel
theorem dX2_add_30 : decode cX2_add 30 = .ok (.iastore, 1) := by decide +kernel
theorem dX2_add_31 : decode cX2_add 31 = .ok (.aload_n 0, 1) := by decide +kernel
theorem dX2_add_32 : decode cX2_add 32 = .ok (.getfield 18, 3) := by decide +kernel
theorem dX2_add_35 : decode cX2_add 35 = .ok (.aload_n 0, 1) := by decide +kernel
theorem dX2_add_36 : decode cX2_add 36 = .ok (.getfield 21, 3) := by decide +kernel
theorem dX2_add_39 : decode cX2_add 39 = .ok (.iload_n 3, 1) := by decide +kernel
theorem dX2_add_40 : decode cX2_add 40 = .ok (.iastore, 1) := by decide +kernel
theorem dX2_add_41 : decode cX2_add 41 = .ok (.aload_n 0, 1) := by decide +kernel
theorem dX2_add_42 : decode cX2_add 42 = .ok (.dup, 1) := by decide +kernel
theorem dX2_add_43 : decode cX2_add 43 = .ok (.getfield 21, 3) := by decide +kernel
theorem dX2_add_46 : decode cX2_add 46 = .ok (.iconst 1, 1) := by decide +kernel
theorem dX2_add_47 : decode cX2_add 47 = .ok (.iadd, 1) := by decide +kernel
theorem dX2_add_48 : decode cX2_add 48 = .ok (.putfield 21, 3) := by decide +kernel
theorem dX2_add_51 : decode cX2_add 51 = .ok (.return_, 1) := by decide +kernel
theorem dX3_init_0 : decode cX3_init 0 = .ok (.aload_n 0, 1) := by decide +kernel
theorem dX3_init_1 : decode cX3_init 1 = .ok (.invokespecial 3, 3) := by decide +kernel
theorem dX3_init_4 : decode cX3_init 4 = .ok (.aload_n 0, 1) := by decide +kernel
theorem dX3_init_5 : decode cX3_init 5 = .ok (.bipush 6, 2) := by decide +kernel
theorem dX3_init_7 : decode cX3_init 7 = .ok (.anewarray 9, 3) := by decide +kernel
theorem dX3_init_10 : decode cX3_init 10 = .ok (.putfield 11, 3) := by decide +kernel
theorem dX3_init_13 : decode cX3_init 13 = .ok (.iconst 0, 1) := by decide +kernel
theorem dX3_init_14 : decode cX3_init 14 = .ok (.istore_n 1, 1) := by decide +kernel
theorem dX3_init_15 : decode cX3_init 15 = .ok (.iload_n 1, 1) := by decide +kernel
theorem dX3_init_16 : decode cX3_init 16 = .ok (.bipush 6, 2) := by decide +kernel
theorem dX3_init_18 : decode cX3_init 18 = .ok (.if_icmp .ge 22, 3) := by decide +kernel
theorem dX3_init_21 : decode cX3_init 21 = .ok (.aload_n 0, 1) := by decide +kernel
theorem dX3_init_22 : decode cX3_init 22 = .ok (.getfield 11, 3) := by decide +kernel
theorem dX3_init_25 : decode cX3_init 25 = .ok (.iload_n 1, 1) := by decide +kernel
theorem dX3_init_26 : decode cX3_init 26 = .ok (.new 9, 3) := by decide +kernel
theorem dX3_init_29 : decode cX3_init 29 = .ok (.dup, 1) := by decide +kernel
theorem dX3_init_30 : decode cX3_init 30 = .ok (.invokespecial 17, 3) := by decide +kernel
theorem dX3_init_33 : decode cX3_init 33 = .ok (.aastore, 1) := by decide +kernel
theorem dX3_init_34 : decode cX3_init 34 = .ok (.iinc 1 1, 3) := by decide +kernel
theorem dX3_init_37 : decode cX3_init 37 = .ok (.goto (-22), 3) := by decide +kernel
theorem dX3_init_40 : decode cX3_init 40 = .ok (.return_, 1) := by decide +kernel
theorem dX3_take_0 : decode cX3_take 0 = .ok (.aload_n 0, 1) := by decide +kernel
theorem dX3_take_1 : decode cX3_take 1 = .ok (.aload_n 1, 1) := by decide +kernel
theorem dX3_take_2 : decode cX3_take 2 = .ok (.getfield 18, 3) := by decide +kernel
theorem dX3_take_5 : decode cX3_take 5 = .ok (.putfield 18, 3) := by decide +kernel
theorem dX3_take_8 : decode cX3_take 8 = .ok (.aload_n 0, 1) := by decide +kernel
theorem dX3_take_9 : decode cX3_take 9 = .ok (.aload_n 1, 1) := by decide +kernel
theorem dX3_take_10 : decode cX3_take 10 = .ok (.getfield 22, 3) := by decide +kernel
theorem dX3_take_13 : decode cX3_take 13 = .ok (.putfield 22, 3) := by decide +kernel
theorem dX3_take_16 : decode cX3_take 16 = .ok (.iconst 0, 1) := by decide +kernel
theorem dX3_take_17 : decode cX3_take 17 = .ok (.istore_n 2, 1) := by decide +kernel
theorem dX3_take_18 : decode cX3_take 18 = .ok (.iload_n 2, 1) := by decide +kernel
theorem dX3_take_19 : decode cX3_take 19 = .ok (.bipush 6, 2) := by decide +kernel
theorem dX3_take_21 : decode cX3_take 21 = .ok (.if_icmp .ge 24, 3) := by decide +kernel
theorem dX3_take_24 : decode cX3_take 24 = .ok (.aload_n 0, 1) := by decide +kernel
theorem dX3_take_25 : decode cX3_take 25 = .ok (.getfield 11, 3) := by decide +kernel
theorem dX3_take_28 : decode cX3_take 28 = .ok (.iload_n 2, 1) := by decide +kernel
theorem dX3_take_29 : decode cX3_take 29 = .ok (.aaload, 1) := by decide +kernel
theorem dX3_take_30 : decode cX3_take 30 = .ok (.aload_n 1, 1) := by decide +kernel
theorem dX3_take_31 : decode cX3_take 31 = .ok (.getfield 11, 3) := by decide +kernel
theorem dX3_take_34 : decode cX3_take 34 = .ok (.iload_n 2, 1) := by decide +kernel
theorem dX3_take_35 : decode cX3_take 35 = .ok (.aaload, 1) := by decide +kernel
theorem dX3_take_36 : decode cX3_take 36 = .ok (.invokevirtual 25, 3) := by decide +kernel
theorem dX3_take_39 : decode cX3_take 39 = .ok (.iinc 2 1, 3) := by decide +kernel
theorem dX3_take_42 : decode cX3_take 42 = .ok (.goto (-24), 3) := by decide +kernel
theorem dX3_take_45 : decode cX3_take 45 = .ok (.return_, 1) := by decide +kernel
theorem dX3_keep_0 : decode cX3_keep 0 = .ok (.aload_n 0, 1) := by decide +kernel
theorem dX3_keep_1 : decode cX3_keep 1 = .ok (.getfield 11, 3) := by decide +kernel
theorem dX3_keep_4 : decode cX3_keep 4 = .ok (.aload_n 0, 1) := by decide +kernel
theorem dX3_keep_5 : decode cX3_keep 5 = .ok (.getfield 22, 3) := by decide +kernel
theorem dX3_keep_8 : decode cX3_keep 8 = .ok (.aaload, 1) := by decide +kernel
theorem dX3_keep_9 : decode cX3_keep 9 = .ok (.aload_n 1, 1) := by decide +kernel
theorem dX3_keep_10 : decode cX3_keep 10 = .ok (.invokevirtual 25, 3) := by decide +kernel
theorem dX3_keep_13 : decode cX3_keep 13 = .ok (.aload_n 0, 1) := by decide +kernel
theorem dX3_keep_14 : decode cX3_keep 14 = .ok (.aload_n 0, 1) := by decide +kernel
theorem dX3_keep_15 : decode cX3_keep 15 = .ok (.getfield 22, 3) := by decide +kernel
theorem dX3_keep_18 : decode cX3_keep 18 = .ok (.iconst 1, 1) := by decide +kernel
theorem dX3_keep_19 : decode cX3_keep 19 = .ok (.iadd, 1) := by decide +kernel
theorem dX3_keep_20 : decode cX3_keep 20 = .ok (.bipush 6, 2) := by decide +kernel
theorem dX3_keep_22 : decode cX3_keep 22 = .ok (.irem, 1) := by decide +kernel
theorem dX3_keep_23 : decode cX3_keep 23 = .ok (.putfield 22, 3) := by decide +kernel
theorem dX3_keep_26 : decode cX3_keep 26 = .ok (.aload_n 0, 1) := by decide +kernel
theorem dX3_keep_27 : decode cX3_keep 27 = .ok (.aload_n 0, 1) := by decide +kernel
theorem dX3_keep_28 : decode cX3_keep 28 = .ok (.getfield 18, 3) := by decide +kernel
theorem dX3_keep_31 : decode cX3_keep 31 = .ok (.iconst 1, 1) := by decide +kernel
theorem dX3_keep_32 : decode cX3_keep 32 = .ok (.iadd, 1) := by decide +kernel
theorem dX3_keep_33 : decode cX3_keep 33 = .ok (.bipush 6, 2) := by decide +kernel
theorem dX3_keep_35 : decode cX3_keep 35 = .ok (.invokestatic 29, 3) := by decide +kernel
theorem dX3_keep_38 : decode cX3_keep 38 = .ok (.putfield 18, 3) := by decide +kernel
theorem dX3_keep_41 : decode cX3_keep 41 = .ok (.return_, 1) := by decide +kernel
theorem dX3_goBack_0 : decode cX3_goBack 0 = .ok (.aload_n 0, 1) := by decide +kernel
theorem dX3_goBack_1 : decode cX3_goBack 1 = .ok (.aload_n 0, 1) := by decide +kernel
theorem dX3_goBack_2 : decode cX3_goBack 2 = .ok (.getfield 22, 3) := by decide +kernel
theorem dX3_goBack_5 : decode cX3_goBack 5 = .ok (.bipush 6, 2) := by decide +kernel
theorem dX3_goBack_7 : decode cX3_goBack 7 = .ok (.iadd, 1) := by decide +kernel
theorem dX3_goBack_8 : decode cX3_goBack 8 = .ok (.iconst 1, 1) := by decide +kernel
theorem dX3_goBack_9 : decode cX3_goBack 9 = .ok (.isub, 1) := by decide +kernel
theorem dX3_goBack_10 : decode cX3_goBack 10 = .ok (.bipush 6, 2) := by decide +kernel
theorem dX3_goBack_12 : decode cX3_goBack 12 = .ok (.irem, 1) := by decide +kernel
theorem dX3_goBack_13 : decode cX3_goBack 13 = .ok (.putfield 22, 3) := by decide +kernel
theorem dX3_goBack_16 : decode cX3_goBack 16 = .ok (.aload_n 0, 1) := by decide +kernel
theorem dX3_goBack_17 : decode cX3_goBack 17 = .ok (.dup, 1) := by decide +kernel
theorem dX3_goBack_18 : decode cX3_goBack 18 = .ok (.getfield 18, 3) := by decide +kernel
theorem dX3_goBack_21 : decode cX3_goBack 21 = .ok (.iconst 1, 1) := by decide +kernel
theorem dX3_goBack_22 : decode cX3_goBack 22 = .ok (.isub, 1) := by decide +kernel
theorem dX3_goBack_23 : decode cX3_goBack 23 = .ok (.putfield 18, 3) := by decide +kernel
theorem dX3_goBack_26 : decode cX3_goBack 26 = .ok (.aload_n 1, 1) := by decide +kernel
theorem dX3_goBack_27 : decode cX3_goBack 27 = .ok (.aload_n 0, 1) := by decide +kernel
theorem dX3_goBack_28 : decode cX3_goBack 28 = .ok (.getfield 11, 3) := by decide +kernel
theorem dX3_goBack_31 : decode cX3_goBack 31 = .ok (.aload_n 0, 1) := by decide +kernel
theorem dX3_goBack_32 : decode cX3_goBack 32 = .ok (.getfield 22, 3) := by decide +kernel
theorem dX3_goBack_35 : decode cX3_goBack 35 = .ok (.aaload, 1) := by decide +kernel
theorem dX3_goBack_36 : decode cX3_goBack 36 = .ok (.invokevirtual 25, 3) := by decide +kernel
theorem dX3_goBack_39 : decode cX3_goBack 39 = .ok (.return_, 1) := by decide +kernel
theorem dX4_init_0 : decode cX4_init 0 = .ok (.aload_n 0, 1) := by decide +kernel
theorem dX4_init_1 : decode cX4_init 1 = .ok (.invokespecial 3, 3) := by decide +kernel
theorem dX4_init_4 : decode cX4_init 4 = .ok (.aload_n 0, 1) := by decide +kernel
theorem dX4_init_5 : decode cX4_init 5 = .ok (.sipush 232, 3) := by decide +kernel
theorem dX4_init_8 : decode cX4_init 8 = .ok (.newarray .boolean, 2) := by decide +kernel
theorem dX4_init_10 : decode cX4_init 10 = .ok (.putfield 9, 3) := by decide +kernel
theorem dX4_init_13 : decode cX4_init 13 = .ok (.return_, 1) := by decide +kernel
theorem dX4_take_0 : decode cX4_take 0 = .ok (.aload_n 0, 1) := by decide +kernel
theorem dX4_take_1 : decode cX4_take 1 = .ok (.aload_n 1, 1) := by decide +kernel
theorem dX4_take_2 : decode cX4_take 2 = .ok (.getfield 15, 3) := by decide +kernel
theorem dX4_take_5 : decode cX4_take 5 = .ok (.putfield 21, 3) := by decide +kernel
theorem dX4_take_8 : decode cX4_take 8 = .ok (.iconst 0, 1) := by decide +kernel
theorem dX4_take_9 : decode cX4_take 9 = .ok (.istore_n 3, 1) := by decide +kernel
theorem dX4_take_10 : decode cX4_take 10 = .ok (.iload_n 3, 1) := by decide +kernel
theorem dX4_take_11 : decode cX4_take 11 = .ok (.aload_n 0, 1) := by decide +kernel
theorem dX4_take_12 : decode cX4_take 12 = .ok (.getfield 21, 3) := by decide +kernel
theorem dX4_take_15 : decode cX4_take 15 = .ok (.if_icmp .ge 31, 3) := by decide +kernel
theorem dX4_take_18 : decode cX4_take 18 = .ok (.aload_n 0, 1) := by decide +kernel
theorem dX4_take_19 : decode cX4_take 19 = .ok (.getfield 9, 3) := by decide +kernel
theorem dX4_take_22 : decode cX4_take 22 = .ok (.iload_n 3, 1) := by decide +kernel
theorem dX4_take_23 : decode cX4_take 23 = .ok (.aload_n 1, 1) := by decide +kernel
theorem dX4_take_24 : decode cX4_take 24 = .ok (.getfield 24, 3) := by decide +kernel
theorem dX4_take_27 : decode cX4_take 27 = .ok (.iload_n 3, 1) := by decide +kernel
theorem dX4_take_28 : decode cX4_take 28 = .ok (.iaload, 1) := by decide +kernel
theorem dX4_take_29 : decode cX4_take 29 = .ok (.iload_n 2, 1) := by decide +kernel
theorem dX4_take_30 : decode cX4_take 30 = .ok (.iand, 1) := by decide +kernel
theorem dX4_take_31 : decode cX4_take 31 = .ok (.ifCond .eq 7, 3) := by decide +kernel
theorem dX4_take_34 : decode cX4_take 34 = .ok (.iconst 1, 1) := by decide +kernel
theorem dX4_take_35 : decode cX4_take 35 = .ok (.goto 4, 3) := by decide +kernel
theorem dX4_take_38 : decode cX4_take 38 = .ok (.iconst 0, 1) := by decide +kernel
theorem dX4_take_39 : decode cX4_take 39 = .ok (.bastore, 1) := by decide +kernel
theorem dX4_take_40 : decode cX4_take 40 = .ok (.iinc 3 1, 3) := by decide +kernel
theorem dX4_take_43 : decode cX4_take 43 = .ok (.goto (-33), 3) := by decide +kernel
theorem dX4_take_46 : decode cX4_take 46 = .ok (.return_, 1) := by decide +kernel
theorem dX4_has_0 : decode cX4_has 0 = .ok (.iload_n 1, 1) := by decide +kernel
theorem dX4_has_1 : decode cX4_has 1 = .ok (.ifCond .lt 24, 3) := by decide +kernel
theorem dX4_has_4 : decode cX4_has 4 = .ok (.iload_n 1, 1) := by decide +kernel
theorem dX4_has_5 : decode cX4_has 5 = .ok (.aload_n 0, 1) := by decide +kernel
theorem dX4_has_6 : decode cX4_has 6 = .ok (.getfield 21, 3) := by decide +kernel
theorem dX4_has_9 : decode cX4_has 9 = .ok (.if_icmp .ge 16, 3) := by decide +kernel
theorem dX4_has_12 : decode cX4_has 12 = .ok (.aload_n 0, 1) := by decide +kernel
theorem dX4_has_13 : decode cX4_has 13 = .ok (.getfield 9, 3) := by decide +kernel
theorem dX4_has_16 : decode cX4_has 16 = .ok (.iload_n 1, 1) := by decide +kernel
theorem dX4_has_17 : decode cX4_has 17 = .ok (.baload, 1) := by decide +kernel
theorem dX4_has_18 : decode cX4_has 18 = .ok (.ifCond .eq 7, 3) := by decide +kernel
theorem dX4_has_21 : decode cX4_has 21 = .ok (.iconst 1, 1) := by decide +kernel
theorem dX4_has_22 : decode cX4_has 22 = .ok (.goto 4, 3) := by decide +kernel
theorem dX4_has_25 : decode cX4_has 25 = .ok (.iconst 0, 1) := by decide +kernel
theorem dX4_has_26 : decode cX4_has 26 = .ok (.ireturn, 1) := by decide +kernel
theorem dX4_lacks_0 : decode cX4_lacks 0 = .ok (.iload_n 1, 1) := by decide +kernel
theorem dX4_lacks_1 : decode cX4_lacks 1 = .ok (.ifCond .lt 24, 3) := by decide +kernel
theorem dX4_lacks_4 : decode cX4_lacks 4 = .ok (.iload_n 1, 1) := by decide +kernel
theorem dX4_lacks_5 : decode cX4_lacks 5 = .ok (.aload_n 0, 1) := by decide +kernel
theorem dX4_lacks_6 : decode cX4_lacks 6 = .ok (.getfield 21, 3) := by decide +kernel
theorem dX4_lacks_9 : decode cX4_lacks 9 = .ok (.if_icmp .ge 16, 3) := by decide +kernel
theorem dX4_lacks_12 : decode cX4_lacks 12 = .ok (.aload_n 0, 1) := by decide +kernel
theorem dX4_lacks_13 : decode cX4_lacks 13 = .ok (.getfield 9, 3) := by decide +kernel
theorem dX4_lacks_16 : decode cX4_lacks 16 = .ok (.iload_n 1, 1) := by decide +kernel
theorem dX4_lacks_17 : decode cX4_lacks 17 = .ok (.baload, 1) := by decide +kernel
theorem dX4_lacks_18 : decode cX4_lacks 18 = .ok (.ifCond .ne 7, 3) := by decide +kernel
theorem dX4_lacks_21 : decode cX4_lacks 21 = .ok (.iconst 1, 1) := by decide +kernel
theorem dX4_lacks_22 : decode cX4_lacks 22 = .ok (.goto 4, 3) := by decide +kernel
theorem dX4_lacks_25 : decode cX4_lacks 25 = .ok (.iconst 0, 1) := by decide +kernel
theorem dX4_lacks_26 : decode cX4_lacks 26 = .ok (.ireturn, 1) := by decide +kernel
theorem dX4_open_0 : decode cX4_open 0 = .ok (.aload_n 1, 1) := by decide +kernel
theorem dX4_open_1 : decode cX4_open 1 = .ok (.getfield 28, 3) := by decide +kernel
theorem dX4_open_4 : decode cX4_open 4 = .ok (.iload_n 2, 1) := by decide +kernel
theorem dX4_open_5 : decode cX4_open 5 = .ok (.iaload, 1) := by decide +kernel
theorem dX4_open_6 : decode cX4_open 6 = .ok (.istore_n 3, 1) := by decide +kernel
theorem dX4_open_7 : decode cX4_open 7 = .ok (.aload_n 0, 1) := by decide +kernel
theorem dX4_open_8 : decode cX4_open 8 = .ok (.aload_n 1, 1) := by decide +kernel
theorem dX4_open_9 : decode cX4_open 9 = .ok (.getfield 33, 3) := by decide +kernel
theorem dX4_open_12 : decode cX4_open 12 = .ok (.iload_n 2, 1) := by decide +kernel
theorem dX4_open_13 : decode cX4_open 13 = .ok (.iaload, 1) := by decide +kernel
theorem dX4_open_14 : decode cX4_open 14 = .ok (.invokevirtual 36, 3) := by decide +kernel
theorem dX4_open_17 : decode cX4_open 17 = .ok (.ifCond .eq 15, 3) := by decide +kernel
theorem dX4_open_20 : decode cX4_open 20 = .ok (.aload_n 0, 1) := by decide +kernel
theorem dX4_open_21 : decode cX4_open 21 = .ok (.iload_n 3, 1) := by decide +kernel
theorem dX4_open_22 : decode cX4_open 22 = .ok (.invokevirtual 40, 3) := by decide +kernel
theorem dX4_open_25 : decode cX4_open 25 = .ok (.ifCond .eq 7, 3) := by decide +kernel
theorem dX4_open_28 : decode cX4_open 28 = .ok (.iconst 1, 1) := by decide +kernel
theorem dX4_open_29 : decode cX4_open 29 = .ok (.goto 4, 3) := by decide +kernel
theorem dX4_open_32 : decode cX4_open 32 = .ok (.iconst 0, 1) := by decide +kernel
theorem dX4_open_33 : decode cX4_open 33 = .ok (.istore 4, 2) := by decide +kernel
theorem dX4_open_35 : decode cX4_open 35 = .ok (.iload 4, 2) := by decide +kernel
theorem dX4_open_37 : decode cX4_open 37 = .ok (.ifCond .eq 10, 3) := by decide +kernel
theorem dX4_open_40 : decode cX4_open 40 = .ok (.aload_n 0, 1) := by decide +kernel
theorem dX4_open_41 : decode cX4_open 41 = .ok (.getfield 9, 3) := by decide +kernel
theorem dX4_open_44 : decode cX4_open 44 = .ok (.iload_n 3, 1) := by decide +kernel
theorem dX4_open_45 : decode cX4_open 45 = .ok (.iconst 1, 1) := by decide +kernel
theorem dX4_open_46 : decode cX4_open 46 = .ok (.bastore, 1) := by decide +kernel
theorem dX4_open_47 : decode cX4_open 47 = .ok (.iload 4, 2) := by decide +kernel
theorem dX4_open_49 : decode cX4_open 49 = .ok (.ireturn, 1) := by decide +kernel
theorem dX4_openAll_0 : decode cX4_openAll 0 = .ok (.iconst 1, 1) := by decide +kernel
theorem dX4_openAll_1 : decode cX4_openAll 1 = .ok (.istore_n 2, 1) := by decide +kernel
theorem dX4_openAll_2 : decode cX4_openAll 2 = .ok (.iconst 0, 1) := by decide +kernel
theorem dX4_openAll_3 : decode cX4_openAll 3 = .ok (.istore_n 3, 1) := by decide +kernel
theorem dX4_openAll_4 : decode cX4_openAll 4 = .ok (.iload_n 2, 1) := by decide +kernel
theorem dX4_openAll_5 : decode cX4_openAll 5 = .ok (.ifCond .eq 46, 3) := by decide +kernel
theorem dX4_openAll_8 : decode cX4_openAll 8 = .ok (.iload_n 3, 1) := by decide +kernel
theorem dX4_openAll_9 : decode cX4_openAll 9 = .ok (.sipush 232, 3) := by decide +kernel
theorem dX4_openAll_12 : decode cX4_openAll 12 = .ok (.if_icmp .ge 39, 3) := by decide +kernel
theorem dX4_openAll_15 : decode cX4_openAll 15 = .ok (.iconst 0, 1) := by decide +kernel
theorem dX4_openAll_16 : decode cX4_openAll 16 = .ok (.istore_n 2, 1) := by decide +kernel
theorem dX4_openAll_17 : decode cX4_openAll 17 = .ok (.iconst 0, 1) := by decide +kernel
theorem dX4_openAll_18 : decode cX4_openAll 18 = .ok (.istore 4, 2) := by decide +kernel
theorem dX4_openAll_20 : decode cX4_openAll 20 = .ok (.iload 4, 2) := by decide +kernel
theorem dX4_openAll_22 : decode cX4_openAll 22 = .ok (.aload_n 1, 1) := by decide +kernel
theorem dX4_openAll_23 : decode cX4_openAll 23 = .ok (.getfield 43, 3) := by decide +kernel
theorem dX4_openAll_26 : decode cX4_openAll 26 = .ok (.if_icmp .ge 19, 3) := by decide +kernel
theorem dX4_openAll_29 : decode cX4_openAll 29 = .ok (.iload_n 2, 1) := by decide +kernel
theorem dX4_openAll_30 : decode cX4_openAll 30 = .ok (.aload_n 0, 1) := by decide +kernel
theorem dX4_openAll_31 : decode cX4_openAll 31 = .ok (.aload_n 1, 1) := by decide +kernel
theorem dX4_openAll_32 : decode cX4_openAll 32 = .ok (.iload 4, 2) := by decide +kernel
theorem dX4_openAll_34 : decode cX4_openAll 34 = .ok (.invokevirtual 46, 3) := by decide +kernel
theorem dX4_openAll_37 : decode cX4_openAll 37 = .ok (.ior, 1) := by decide +kernel
theorem dX4_openAll_38 : decode cX4_openAll 38 = .ok (.istore_n 2, 1) := by decide +kernel
theorem dX4_openAll_39 : decode cX4_openAll 39 = .ok (.iinc 4 1, 3) := by decide +kernel
theorem dX4_openAll_42 : decode cX4_openAll 42 = .ok (.goto (-22), 3) := by decide +kernel
theorem dX4_openAll_45 : decode cX4_openAll 45 = .ok (.iinc 3 1, 3) := by decide +kernel
theorem dX4_openAll_48 : decode cX4_openAll 48 = .ok (.goto (-44), 3) := by decide +kernel
theorem dX4_openAll_51 : decode cX4_openAll 51 = .ok (.return_, 1) := by decide +kernel
theorem dX5_init_0 : decode cX5_init 0 = .ok (.aload_n 0, 1) := by decide +kernel
theorem dX5_init_1 : decode cX5_init 1 = .ok (.invokespecial 3, 3) := by decide +kernel
theorem dX5_init_4 : decode cX5_init 4 = .ok (.aload_n 0, 1) := by decide +kernel
theorem dX5_init_5 : decode cX5_init 5 = .ok (.bipush 16, 2) := by decide +kernel
theorem dX5_init_7 : decode cX5_init 7 = .ok (.newarray .int, 2) := by decide +kernel
theorem dX5_init_9 : decode cX5_init 9 = .ok (.putfield 9, 3) := by decide +kernel
theorem dX5_init_12 : decode cX5_init 12 = .ok (.aload_n 0, 1) := by decide +kernel
theorem dX5_init_13 : decode cX5_init 13 = .ok (.bipush 32, 2) := by decide +kernel
theorem dX5_init_15 : decode cX5_init 15 = .ok (.newarray .int, 2) := by decide +kernel
theorem dX5_init_17 : decode cX5_init 17 = .ok (.putfield 15, 3) := by decide +kernel
theorem dX5_init_20 : decode cX5_init 20 = .ok (.return_, 1) := by decide +kernel
theorem dX5_take_0 : decode cX5_take 0 = .ok (.aload_n 1, 1) := by decide +kernel
theorem dX5_take_1 : decode cX5_take 1 = .ok (.getfield 9, 3) := by decide +kernel
theorem dX5_take_4 : decode cX5_take 4 = .ok (.iconst 0, 1) := by decide +kernel
theorem dX5_take_5 : decode cX5_take 5 = .ok (.aload_n 0, 1) := by decide +kernel
theorem dX5_take_6 : decode cX5_take 6 = .ok (.getfield 9, 3) := by decide +kernel
theorem dX5_take_9 : decode cX5_take 9 = .ok (.iconst 0, 1) := by decide +kernel
theorem dX5_take_10 : decode cX5_take 10 = .ok (.bipush 16, 2) := by decide +kernel
theorem dX5_take_12 : decode cX5_take 12 = .ok (.invokestatic 18, 3) := by decide +kernel
theorem dX5_take_15 : decode cX5_take 15 = .ok (.aload_n 1, 1) := by decide +kernel
theorem dX5_take_16 : decode cX5_take 16 = .ok (.getfield 15, 3) := by decide +kernel
theorem dX5_take_19 : decode cX5_take 19 = .ok (.iconst 0, 1) := by decide +kernel
theorem dX5_take_20 : decode cX5_take 20 = .ok (.aload_n 0, 1) := by decide +kernel
theorem dX5_take_21 : decode cX5_take 21 = .ok (.getfield 15, 3) := by decide +kernel
theorem dX5_take_24 : decode cX5_take 24 = .ok (.iconst 0, 1) := by decide +kernel
theorem dX5_take_25 : decode cX5_take 25 = .ok (.bipush 32, 2) := by decide +kernel
theorem dX5_take_27 : decode cX5_take 27 = .ok (.invokestatic 18, 3) := by decide +kernel
theorem dX5_take_30 : decode cX5_take 30 = .ok (.return_, 1) := by decide +kernel
theorem dX5_clear_0 : decode cX5_clear 0 = .ok (.aload_n 0, 1) := by decide +kernel
theorem dX5_clear_1 : decode cX5_clear 1 = .ok (.getfield 9, 3) := by decide +kernel
theorem dX5_clear_4 : decode cX5_clear 4 = .ok (.iconst 0, 1) := by decide +kernel
theorem dX5_clear_5 : decode cX5_clear 5 = .ok (.invokestatic 24, 3) := by decide +kernel
theorem dX5_clear_8 : decode cX5_clear 8 = .ok (.aload_n 0, 1) := by decide +kernel
theorem dX5_clear_9 : decode cX5_clear 9 = .ok (.getfield 15, 3) := by decide +kernel
theorem dX5_clear_12 : decode cX5_clear 12 = .ok (.iconst 0, 1) := by decide +kernel
theorem dX5_clear_13 : decode cX5_clear 13 = .ok (.invokestatic 24, 3) := by decide +kernel
theorem dX5_clear_16 : decode cX5_clear 16 = .ok (.return_, 1) := by decide +kernel
theorem dX5_all_0 : decode cX5_all 0 = .ok (.aload_n 0, 1) := by decide +kernel
theorem dX5_all_1 : decode cX5_all 1 = .ok (.getfield 15, 3) := by decide +kernel
theorem dX5_all_4 : decode cX5_all 4 = .ok (.iconst 1, 1) := by decide +kernel
theorem dX5_all_5 : decode cX5_all 5 = .ok (.iaload, 1) := by decide +kernel
theorem dX5_all_6 : decode cX5_all 6 = .ok (.ireturn, 1) := by decide +kernel
theorem dX5_sits_0 : decode cX5_sits 0 = .ok (.aload_n 0, 1) := by decide +kernel
theorem dX5_sits_1 : decode cX5_sits 1 = .ok (.getfield 9, 3) := by decide +kernel
theorem dX5_sits_4 : decode cX5_sits 4 = .ok (.iload_n 1, 1) := by decide +kernel
theorem dX5_sits_5 : decode cX5_sits 5 = .ok (.iaload, 1) := by decide +kernel
theorem dX5_sits_6 : decode cX5_sits 6 = .ok (.ifCond .eq 7, 3) := by decide +kernel
theorem dX5_sits_9 : decode cX5_sits 9 = .ok (.iconst 1, 1) := by decide +kernel
theorem dX5_sits_10 : decode cX5_sits 10 = .ok (.goto 4, 3) := by decide +kernel
theorem dX5_sits_13 : decode cX5_sits 13 = .ok (.iconst 0, 1) := by decide +kernel
theorem dX5_sits_14 : decode cX5_sits 14 = .ok (.ireturn, 1) := by decide +kernel
theorem dX5_live_0 : decode cX5_live 0 = .ok (.aload_n 0, 1) := by decide +kernel
theorem dX5_live_1 : decode cX5_live 1 = .ok (.getfield 15, 3) := by decide +kernel
theorem dX5_live_4 : decode cX5_live 4 = .ok (.iload_n 1, 1) := by decide +kernel
theorem dX5_live_5 : decode cX5_live 5 = .ok (.iaload, 1) := by decide +kernel
theorem dX5_live_6 : decode cX5_live 6 = .ok (.ifCond .eq 7, 3) := by decide +kernel
theorem dX5_live_9 : decode cX5_live 9 = .ok (.iconst 1, 1) := by decide +kernel
theorem dX5_live_10 : decode cX5_live 10 = .ok (.goto 4, 3) := by decide +kernel
theorem dX5_live_13 : decode cX5_live 13 = .ok (.iconst 0, 1) := by decide +kernel
theorem dX5_live_14 : decode cX5_live 14 = .ok (.ireturn, 1) := by decide +kernel
theorem dX5_move_0 : decode cX5_move 0 = .ok (.iconst 0, 1) := by decide +kernel
theorem dX5_move_1 : decode cX5_move 1 = .ok (.istore_n 3, 1) := by decide +kernel
theorem dX5_move_2 : decode cX5_move 2 = .ok (.iconst 0, 1) := by decide +kernel
theorem dX5_move_3 : decode cX5_move 3 = .ok (.istore 4, 2) := by decide +kernel
theorem dX5_move_5 : decode cX5_move 5 = .ok (.iconst 0, 1) := by decide +kernel
theorem dX5_move_6 : decode cX5_move 6 = .ok (.istore 5, 2) := by decide +kernel
theorem dX5_move_8 : decode cX5_move 8 = .ok (.iload 5, 2) := by decide +kernel
theorem dX5_move_10 : decode cX5_move 10 = .ok (.bipush 16, 2) := by decide +kernel
theorem dX5_move_12 : decode cX5_move 12 = .ok (.if_icmp .ge 52, 3) := by decide +kernel
theorem dX5_move_15 : decode cX5_move 15 = .ok (.iload_n 1, 1) := by decide +kernel
theorem dX5_move_16 : decode cX5_move 16 = .ok (.iload 5, 2) := by decide +kernel
theorem dX5_move_18 : decode cX5_move 18 = .ok (.invokestatic 30, 3) := by decide +kernel
theorem dX5_move_21 : decode cX5_move 21 = .ok (.ifCond .eq 37, 3) := by decide +kernel
theorem dX5_move_24 : decode cX5_move 24 = .ok (.aload_n 0, 1) := by decide +kernel
theorem dX5_move_25 : decode cX5_move 25 = .ok (.getfield 9, 3) := by decide +kernel
theorem dX5_move_28 : decode cX5_move 28 = .ok (.iload 5, 2) := by decide +kernel
theorem dX5_move_30 : decode cX5_move 30 = .ok (.iaload, 1) := by decide +kernel
theorem dX5_move_31 : decode cX5_move 31 = .ok (.istore 6, 2) := by decide +kernel
theorem dX5_move_33 : decode cX5_move 33 = .ok (.aload_n 0, 1) := by decide +kernel
theorem dX5_move_34 : decode cX5_move 34 = .ok (.iload 5, 2) := by decide +kernel
theorem dX5_move_36 : decode cX5_move 36 = .ok (.invokevirtual 34, 3) := by decide +kernel
theorem dX5_move_39 : decode cX5_move 39 = .ok (.iload 4, 2) := by decide +kernel
theorem dX5_move_41 : decode cX5_move 41 = .ok (.iconst 1, 1) := by decide +kernel
theorem dX5_move_42 : decode cX5_move 42 = .ok (.iload 6, 2) := by decide +kernel
theorem dX5_move_44 : decode cX5_move 44 = .ok (.ishl, 1) := by decide +kernel
theorem dX5_move_45 : decode cX5_move 45 = .ok (.ior, 1) := by decide +kernel
theorem dX5_move_46 : decode cX5_move 46 = .ok (.istore 4, 2) := by decide +kernel
theorem dX5_move_48 : decode cX5_move 48 = .ok (.iload_n 3, 1) := by decide +kernel
theorem dX5_move_49 : decode cX5_move 49 = .ok (.iload 6, 2) := by decide +kernel
theorem dX5_move_51 : decode cX5_move 51 = .ok (.iconst 2, 1) := by decide +kernel
theorem dX5_move_52 : decode cX5_move 52 = .ok (.idiv, 1) := by decide +kernel
theorem dX5_move_53 : decode cX5_move 53 = .ok (.invokestatic 38, 3) := by decide +kernel
theorem dX5_move_56 : decode cX5_move 56 = .ok (.ior, 1) := by decide +kernel
theorem dX5_move_57 : decode cX5_move 57 = .ok (.istore_n 3, 1) := by decide +kernel
theorem dX5_move_58 : decode cX5_move 58 = .ok (.iinc 5 1, 3) := by decide +kernel
theorem dX5_move_61 : decode cX5_move 61 = .ok (.goto (-53), 3) := by decide +kernel
theorem dX5_move_64 : decode cX5_move 64 = .ok (.iconst 0, 1) := by decide +kernel
theorem dX5_move_65 : decode cX5_move 65 = .ok (.istore 5, 2) := by decide +kernel
theorem dX5_move_67 : decode cX5_move 67 = .ok (.iload 5, 2) := by decide +kernel
theorem dX5_move_69 : decode cX5_move 69 = .ok (.bipush 16, 2) := by decide +kernel
theorem dX5_move_71 : decode cX5_move 71 = .ok (.if_icmp .ge 64, 3) := by decide +kernel
theorem dX5_move_74 : decode cX5_move 74 = .ok (.iload_n 2, 1) := by decide +kernel
theorem dX5_move_75 : decode cX5_move 75 = .ok (.iload 5, 2) := by decide +kernel
theorem dX5_move_77 : decode cX5_move 77 = .ok (.invokestatic 30, 3) := by decide +kernel
theorem dX5_move_80 : decode cX5_move 80 = .ok (.ifCond .eq 49, 3) := by decide +kernel
theorem dX5_move_83 : decode cX5_move 83 = .ok (.iload 4, 2) := by decide +kernel
theorem dX5_move_85 : decode cX5_move 85 = .ok (.ifCond .ne 10, 3) := by decide +kernel
theorem dX5_move_88 : decode cX5_move 88 = .ok (.aload_n 0, 1) := by decide +kernel
theorem dX5_move_89 : decode cX5_move 89 = .ok (.invokevirtual 42, 3) := by decide +kernel
theorem dX5_move_92 : decode cX5_move 92 = .ok (.goto 8, 3) := by decide +kernel
theorem dX5_move_95 : decode cX5_move 95 = .ok (.iload 4, 2) := by decide +kernel
theorem dX5_move_97 : decode cX5_move 97 = .ok (.invokestatic 46, 3) := by decide +kernel
theorem dX5_move_100 : decode cX5_move 100 = .ok (.istore 6, 2) := by decide +kernel
theorem dX5_move_102 : decode cX5_move 102 = .ok (.aload_n 0, 1) := by decide +kernel
theorem dX5_move_103 : decode cX5_move 103 = .ok (.iload 5, 2) := by decide +kernel
theorem dX5_move_105 : decode cX5_move 105 = .ok (.iload 6, 2) := by decide +kernel
theorem dX5_move_107 : decode cX5_move 107 = .ok (.invokevirtual 51, 3) := by decide +kernel
theorem dX5_move_110 : decode cX5_move 110 = .ok (.iload 4, 2) := by decide +kernel
theorem dX5_move_112 : decode cX5_move 112 = .ok (.iconst 1, 1) := by decide +kernel
theorem dX5_move_113 : decode cX5_move 113 = .ok (.iload 6, 2) := by decide +kernel
theorem dX5_move_115 : decode cX5_move 115 = .ok (.ishl, 1) := by decide +kernel
theorem dX5_move_116 : decode cX5_move 116 = .ok (.iconst (-1), 1) := by decide +kernel
theorem dX5_move_117 : decode cX5_move 117 = .ok (.ixor, 1) := by decide +kernel
theorem dX5_move_118 : decode cX5_move 118 = .ok (.iand, 1) := by decide +kernel
theorem dX5_move_119 : decode cX5_move 119 = .ok (.istore 4, 2) := by decide +kernel
theorem dX5_move_121 : decode cX5_move 121 = .ok (.iload_n 3, 1) := by decide +kernel
theorem dX5_move_122 : decode cX5_move 122 = .ok (.iload 6, 2) := by decide +kernel
theorem dX5_move_124 : decode cX5_move 124 = .ok (.invokestatic 38, 3) := by decide +kernel
theorem dX5_move_127 : decode cX5_move 127 = .ok (.ior, 1) := by decide +kernel
theorem dX5_move_128 : decode cX5_move 128 = .ok (.istore_n 3, 1) := by decide +kernel
theorem dX5_move_129 : decode cX5_move 129 = .ok (.iinc 5 1, 3) := by decide +kernel
theorem dX5_move_132 : decode cX5_move 132 = .ok (.goto (-65), 3) := by decide +kernel
theorem dX5_move_135 : decode cX5_move 135 = .ok (.iload_n 3, 1) := by decide +kernel
theorem dX5_move_136 : decode cX5_move 136 = .ok (.ireturn, 1) := by decide +kernel
theorem dX5_lettersFor_0 : decode cX5_lettersFor 0 = .ok (.iconst 0, 1) := by decide +kernel
theorem dX5_lettersFor_1 : decode cX5_lettersFor 1 = .ok (.istore_n 2, 1) := by decide +kernel
theorem dX5_lettersFor_2 : decode cX5_lettersFor 2 = .ok (.iconst 1, 1) := by decide +kernel
theorem dX5_lettersFor_3 : decode cX5_lettersFor 3 = .ok (.istore_n 3, 1) := by decide +kernel
theorem dX5_lettersFor_4 : decode cX5_lettersFor 4 = .ok (.iload_n 3, 1) := by decide +kernel
theorem dX5_lettersFor_5 : decode cX5_lettersFor 5 = .ok (.bipush 16, 2) := by decide +kernel
theorem dX5_lettersFor_7 : decode cX5_lettersFor 7 = .ok (.if_icmp .ge 53, 3) := by decide +kernel
theorem dX5_lettersFor_10 : decode cX5_lettersFor 10 = .ok (.iload_n 1, 1) := by decide +kernel
theorem dX5_lettersFor_11 : decode cX5_lettersFor 11 = .ok (.iload_n 3, 1) := by decide +kernel
theorem dX5_lettersFor_12 : decode cX5_lettersFor 12 = .ok (.invokestatic 30, 3) := by decide +kernel
theorem dX5_lettersFor_15 : decode cX5_lettersFor 15 = .ok (.ifCond .eq 39, 3) := by decide +kernel
theorem dX5_lettersFor_18 : decode cX5_lettersFor 18 = .ok (.iload_n 2, 1) := by decide +kernel
theorem dX5_lettersFor_19 : decode cX5_lettersFor 19 = .ok (.aload_n 0, 1) := by decide +kernel
theorem dX5_lettersFor_20 : decode cX5_lettersFor 20 = .ok (.iconst 2, 1) := by decide +kernel
theorem dX5_lettersFor_21 : decode cX5_lettersFor 21 = .ok (.iload_n 3, 1) := by decide +kernel
theorem dX5_lettersFor_22 : decode cX5_lettersFor 22 = .ok (.imul, 1) := by decide +kernel
theorem dX5_lettersFor_23 : decode cX5_lettersFor 23 = .ok (.invokevirtual 55, 3) := by decide +kernel
theorem dX5_lettersFor_26 : decode cX5_lettersFor 26 = .ok (.ifCond .eq 7, 3) := by decide +kernel
theorem dX5_lettersFor_29 : decode cX5_lettersFor 29 = .ok (.iconst 1, 1) := by decide +kernel
theorem dX5_lettersFor_30 : decode cX5_lettersFor 30 = .ok (.goto 4, 3) := by decide +kernel
theorem dX5_lettersFor_33 : decode cX5_lettersFor 33 = .ok (.iconst 0, 1) := by decide +kernel
theorem dX5_lettersFor_34 : decode cX5_lettersFor 34 = .ok (.aload_n 0, 1) := by decide +kernel
theorem dX5_lettersFor_35 : decode cX5_lettersFor 35 = .ok (.iconst 2, 1) := by decide +kernel
theorem dX5_lettersFor_36 : decode cX5_lettersFor 36 = .ok (.iload_n 3, 1) := by decide +kernel
theorem dX5_lettersFor_37 : decode cX5_lettersFor 37 = .ok (.imul, 1) := by decide +kernel
theorem dX5_lettersFor_38 : decode cX5_lettersFor 38 = .ok (.iconst 1, 1) := by decide +kernel
theorem dX5_lettersFor_39 : decode cX5_lettersFor 39 = .ok (.iadd, 1) := by decide +kernel
theorem dX5_lettersFor_40 : decode cX5_lettersFor 40 = .ok (.invokevirtual 55, 3) := by decide +kernel
theorem dX5_lettersFor_43 : decode cX5_lettersFor 43 = .ok (.ifCond .eq 7, 3) := by decide +kernel
theorem dX5_lettersFor_46 : decode cX5_lettersFor 46 = .ok (.iconst 1, 1) := by decide +kernel
theorem dX5_lettersFor_47 : decode cX5_lettersFor 47 = .ok (.goto 4, 3) := by decide +kernel
theorem dX5_lettersFor_50 : decode cX5_lettersFor 50 = .ok (.iconst 0, 1) := by decide +kernel
theorem dX5_lettersFor_51 : decode cX5_lettersFor 51 = .ok (.iadd, 1) := by decide +kernel
theorem dX5_lettersFor_52 : decode cX5_lettersFor 52 = .ok (.iadd, 1) := by decide +kernel
theorem dX5_lettersFor_53 : decode cX5_lettersFor 53 = .ok (.istore_n 2, 1) := by decide +kernel
theorem dX5_lettersFor_54 : decode cX5_lettersFor 54 = .ok (.iinc 3 1, 3) := by decide +kernel
theorem dX5_lettersFor_57 : decode cX5_lettersFor 57 = .ok (.goto (-53), 3) := by decide +kernel
theorem dX5_lettersFor_60 : decode cX5_lettersFor 60 = .ok (.iload_n 2, 1) := by decide +kernel
theorem dX5_lettersFor_61 : decode cX5_lettersFor 61 = .ok (.ireturn, 1) := by decide +kernel
theorem dX5_sit_0 : decode cX5_sit 0 = .ok (.aload_n 0, 1) := by decide +kernel
theorem dX5_sit_1 : decode cX5_sit 1 = .ok (.getfield 9, 3) := by decide +kernel
theorem dX5_sit_4 : decode cX5_sit 4 = .ok (.iload_n 1, 1) := by decide +kernel
theorem dX5_sit_5 : decode cX5_sit 5 = .ok (.iload_n 2, 1) := by decide +kernel
theorem dX5_sit_6 : decode cX5_sit 6 = .ok (.iastore, 1) := by decide +kernel
theorem dX5_sit_7 : decode cX5_sit 7 = .ok (.iload_n 2, 1) := by decide +kernel
theorem dX5_sit_8 : decode cX5_sit 8 = .ok (.istore_n 3, 1) := by decide +kernel
theorem dX5_sit_9 : decode cX5_sit 9 = .ok (.iload_n 3, 1) := by decide +kernel
theorem dX5_sit_10 : decode cX5_sit 10 = .ok (.iconst 1, 1) := by decide +kernel
theorem dX5_sit_11 : decode cX5_sit 11 = .ok (.if_icmp .lt 22, 3) := by decide +kernel
theorem dX5_sit_14 : decode cX5_sit 14 = .ok (.aload_n 0, 1) := by decide +kernel
theorem dX5_sit_15 : decode cX5_sit 15 = .ok (.getfield 15, 3) := by decide +kernel
theorem dX5_sit_18 : decode cX5_sit 18 = .ok (.iload_n 3, 1) := by decide +kernel
theorem dX5_sit_19 : decode cX5_sit 19 = .ok (.dup2, 1) := by decide +kernel
theorem dX5_sit_20 : decode cX5_sit 20 = .ok (.iaload, 1) := by decide +kernel
theorem dX5_sit_21 : decode cX5_sit 21 = .ok (.iconst 1, 1) := by decide +kernel
theorem dX5_sit_22 : decode cX5_sit 22 = .ok (.iload_n 1, 1) := by decide +kernel
theorem dX5_sit_23 : decode cX5_sit 23 = .ok (.ishl, 1) := by decide +kernel
theorem dX5_sit_24 : decode cX5_sit 24 = .ok (.ior, 1) := by decide +kernel
theorem dX5_sit_25 : decode cX5_sit 25 = .ok (.iastore, 1) := by decide +kernel
theorem dX5_sit_26 : decode cX5_sit 26 = .ok (.iload_n 3, 1) := by decide +kernel
theorem dX5_sit_27 : decode cX5_sit 27 = .ok (.iconst 2, 1) := by decide +kernel
theorem dX5_sit_28 : decode cX5_sit 28 = .ok (.idiv, 1) := by decide +kernel
theorem dX5_sit_29 : decode cX5_sit 29 = .ok (.istore_n 3, 1) := by decide +kernel
theorem dX5_sit_30 : decode cX5_sit 30 = .ok (.goto (-21), 3) := by decide +kernel
theorem dX5_sit_33 : decode cX5_sit 33 = .ok (.return_, 1) := by decide +kernel
theorem dX5_stand_0 : decode cX5_stand 0 = .ok (.aload_n 0, 1) := by decide +kernel
theorem dX5_stand_1 : decode cX5_stand 1 = .ok (.getfield 9, 3) := by decide +kernel
theorem dX5_stand_4 : decode cX5_stand 4 = .ok (.iload_n 1, 1) := by decide +kernel
theorem dX5_stand_5 : decode cX5_stand 5 = .ok (.iaload, 1) := by decide +kernel
theorem dX5_stand_6 : decode cX5_stand 6 = .ok (.istore_n 2, 1) := by decide +kernel
theorem dX5_stand_7 : decode cX5_stand 7 = .ok (.iload_n 2, 1) := by decide +kernel
theorem dX5_stand_8 : decode cX5_stand 8 = .ok (.iconst 1, 1) := by decide +kernel
theorem dX5_stand_9 : decode cX5_stand 9 = .ok (.if_icmp .lt 24, 3) := by decide +kernel
theorem dX5_stand_12 : decode cX5_stand 12 = .ok (.aload_n 0, 1) := by decide +kernel
theorem dX5_stand_13 : decode cX5_stand 13 = .ok (.getfield 15, 3) := by decide +kernel
theorem dX5_stand_16 : decode cX5_stand 16 = .ok (.iload_n 2, 1) := by decide +kernel
theorem dX5_stand_17 : decode cX5_stand 17 = .ok (.dup2, 1) := by decide +kernel
theorem dX5_stand_18 : decode cX5_stand 18 = .ok (.iaload, 1) := by decide +kernel
theorem dX5_stand_19 : decode cX5_stand 19 = .ok (.iconst 1, 1) := by decide +kernel
theorem dX5_stand_20 : decode cX5_stand 20 = .ok (.iload_n 1, 1) := by decide +kernel
theorem dX5_stand_21 : decode cX5_stand 21 = .ok (.ishl, 1) := by decide +kernel
theorem dX5_stand_22 : decode cX5_stand 22 = .ok (.iconst (-1), 1) := by decide +kernel
theorem dX5_stand_23 : decode cX5_stand 23 = .ok (.ixor, 1) := by decide +kernel
theorem dX5_stand_24 : decode cX5_stand 24 = .ok (.iand, 1) := by decide +kernel
theorem dX5_stand_25 : decode cX5_stand 25 = .ok (.iastore, 1) := by decide +kernel
theorem dX5_stand_26 : decode cX5_stand 26 = .ok (.iload_n 2, 1) := by decide +kernel
theorem dX5_stand_27 : decode cX5_stand 27 = .ok (.iconst 2, 1) := by decide +kernel
theorem dX5_stand_28 : decode cX5_stand 28 = .ok (.idiv, 1) := by decide +kernel
theorem dX5_stand_29 : decode cX5_stand 29 = .ok (.istore_n 2, 1) := by decide +kernel
theorem dX5_stand_30 : decode cX5_stand 30 = .ok (.goto (-23), 3) := by decide +kernel
theorem dX5_stand_33 : decode cX5_stand 33 = .ok (.aload_n 0, 1) := by decide +kernel
theorem dX5_stand_34 : decode cX5_stand 34 = .ok (.getfield 9, 3) := by decide +kernel
theorem dX5_stand_37 : decode cX5_stand 37 = .ok (.iload_n 1, 1) := by decide +kernel
theorem dX5_stand_38 : decode cX5_stand 38 = .ok (.iconst 0, 1) := by decide +kernel
theorem dX5_stand_39 : decode cX5_stand 39 = .ok (.iastore, 1) := by decide +kernel
theorem dX5_stand_40 : decode cX5_stand 40 = .ok (.return_, 1) := by decide +kernel
theorem dX5_emptiestLeaf_0 : decode cX5_emptiestLeaf 0 = .ok (.iconst 1, 1) := by decide +kernel
theorem dX5_emptiestLeaf_1 : decode cX5_emptiestLeaf 1 = .ok (.istore_n 1, 1) := by decide +kernel
theorem dX5_emptiestLeaf_2 : decode cX5_emptiestLeaf 2 = .ok (.iload_n 1, 1) := by decide +kernel
theorem dX5_emptiestLeaf_3 : decode cX5_emptiestLeaf 3 = .ok (.bipush 16, 2) := by decide +kernel
theorem dX5_emptiestLeaf_5 : decode cX5_emptiestLeaf 5 = .ok (.if_icmp .ge 41, 3) := by decide +kernel
theorem dX5_emptiestLeaf_8 : decode cX5_emptiestLeaf 8 = .ok (.iconst 2, 1) := by decide +kernel
theorem dX5_emptiestLeaf_9 : decode cX5_emptiestLeaf 9 = .ok (.iload_n 1, 1) := by decide +kernel
theorem dX5_emptiestLeaf_10 : decode cX5_emptiestLeaf 10 = .ok (.imul, 1) := by decide +kernel
theorem dX5_emptiestLeaf_11 : decode cX5_emptiestLeaf 11 = .ok (.istore_n 2, 1) := by decide +kernel
theorem dX5_emptiestLeaf_12 : decode cX5_emptiestLeaf 12 = .ok (.iload_n 2, 1) := by decide +kernel
theorem dX5_emptiestLeaf_13 : decode cX5_emptiestLeaf 13 = .ok (.iconst 1, 1) := by decide +kernel
theorem dX5_emptiestLeaf_14 : decode cX5_emptiestLeaf 14 = .ok (.iadd, 1) := by decide +kernel
theorem dX5_emptiestLeaf_15 : decode cX5_emptiestLeaf 15 = .ok (.istore_n 3, 1) := by decide +kernel
theorem dX5_emptiestLeaf_16 : decode cX5_emptiestLeaf 16 = .ok (.aload_n 0, 1) := by decide +kernel
theorem dX5_emptiestLeaf_17 : decode cX5_emptiestLeaf 17 = .ok (.getfield 15, 3) := by decide +kernel
theorem dX5_emptiestLeaf_20 : decode cX5_emptiestLeaf 20 = .ok (.iload_n 3, 1) := by decide +kernel
theorem dX5_emptiestLeaf_21 : decode cX5_emptiestLeaf 21 = .ok (.iaload, 1) := by decide +kernel
theorem dX5_emptiestLeaf_22 : decode cX5_emptiestLeaf 22 = .ok (.invokestatic 59, 3) := by decide +kernel
theorem dX5_emptiestLeaf_25 : decode cX5_emptiestLeaf 25 = .ok (.aload_n 0, 1) := by decide +kernel
theorem dX5_emptiestLeaf_26 : decode cX5_emptiestLeaf 26 = .ok (.getfield 15, 3) := by decide +kernel
theorem dX5_emptiestLeaf_29 : decode cX5_emptiestLeaf 29 = .ok (.iload_n 2, 1) := by decide +kernel
theorem dX5_emptiestLeaf_30 : decode cX5_emptiestLeaf 30 = .ok (.iaload, 1) := by decide +kernel
theorem dX5_emptiestLeaf_31 : decode cX5_emptiestLeaf 31 = .ok (.invokestatic 59, 3) := by decide +kernel
theorem dX5_emptiestLeaf_34 : decode cX5_emptiestLeaf 34 = .ok (.if_icmp .ge 7, 3) := by decide +kernel
theorem dX5_emptiestLeaf_37 : decode cX5_emptiestLeaf 37 = .ok (.iload_n 3, 1) := by decide +kernel
theorem dX5_emptiestLeaf_38 : decode cX5_emptiestLeaf 38 = .ok (.goto 4, 3) := by decide +kernel
theorem dX5_emptiestLeaf_41 : decode cX5_emptiestLeaf 41 = .ok (.iload_n 2, 1) := by decide +kernel
theorem dX5_emptiestLeaf_42 : decode cX5_emptiestLeaf 42 = .ok (.istore_n 1, 1) := by decide +kernel
theorem dX5_emptiestLeaf_43 : decode cX5_emptiestLeaf 43 = .ok (.goto (-41), 3) := by decide +kernel
theorem dX5_emptiestLeaf_46 : decode cX5_emptiestLeaf 46 = .ok (.iload_n 1, 1) := by decide +kernel
theorem dX5_emptiestLeaf_47 : decode cX5_emptiestLeaf 47 = .ok (.ireturn, 1) := by decide +kernel
theorem dX5_pathFrom_0 : decode cX5_pathFrom 0 = .ok (.iconst 0, 1) := by decide +kernel
theorem dX5_pathFrom_1 : decode cX5_pathFrom 1 = .ok (.istore_n 1, 1) := by decide +kernel
theorem dX5_pathFrom_2 : decode cX5_pathFrom 2 = .ok (.iload_n 0, 1) := by decide +kernel
theorem dX5_pathFrom_3 : decode cX5_pathFrom 3 = .ok (.istore_n 2, 1) := by decide +kernel
theorem dX5_pathFrom_4 : decode cX5_pathFrom 4 = .ok (.iload_n 2, 1) := by decide +kernel
theorem dX5_pathFrom_5 : decode cX5_pathFrom 5 = .ok (.iconst 1, 1) := by decide +kernel
theorem dX5_pathFrom_6 : decode cX5_pathFrom 6 = .ok (.if_icmp .lt 16, 3) := by decide +kernel
theorem dX5_pathFrom_9 : decode cX5_pathFrom 9 = .ok (.iload_n 1, 1) := by decide +kernel
theorem dX5_pathFrom_10 : decode cX5_pathFrom 10 = .ok (.iconst 1, 1) := by decide +kernel
theorem dX5_pathFrom_11 : decode cX5_pathFrom 11 = .ok (.iload_n 2, 1) := by decide +kernel
theorem dX5_pathFrom_12 : decode cX5_pathFrom 12 = .ok (.ishl, 1) := by decide +kernel
theorem dX5_pathFrom_13 : decode cX5_pathFrom 13 = .ok (.ior, 1) := by decide +kernel
theorem dX5_pathFrom_14 : decode cX5_pathFrom 14 = .ok (.istore_n 1, 1) := by decide +kernel
theorem dX5_pathFrom_15 : decode cX5_pathFrom 15 = .ok (.iload_n 2, 1) := by decide +kernel
theorem dX5_pathFrom_16 : decode cX5_pathFrom 16 = .ok (.iconst 2, 1) := by decide +kernel
theorem dX5_pathFrom_17 : decode cX5_pathFrom 17 = .ok (.idiv, 1) := by decide +kernel
theorem dX5_pathFrom_18 : decode cX5_pathFrom 18 = .ok (.istore_n 2, 1) := by decide +kernel
theorem dX5_pathFrom_19 : decode cX5_pathFrom 19 = .ok (.goto (-15), 3) := by decide +kernel
theorem dX5_pathFrom_22 : decode cX5_pathFrom 22 = .ok (.iload_n 1, 1) := by decide +kernel
theorem dX5_pathFrom_23 : decode cX5_pathFrom 23 = .ok (.ireturn, 1) := by decide +kernel
theorem dX6_init_0 : decode cX6_init 0 = .ok (.aload_n 0, 1) := by decide +kernel
theorem dX6_init_1 : decode cX6_init 1 = .ok (.invokespecial 3, 3) := by decide +kernel
theorem dX6_init_4 : decode cX6_init 4 = .ok (.aload_n 0, 1) := by decide +kernel
theorem dX6_init_5 : decode cX6_init 5 = .ok (.bipush 24, 2) := by decide +kernel
theorem dX6_init_7 : decode cX6_init 7 = .ok (.newarray .long, 2) := by decide +kernel
theorem dX6_init_9 : decode cX6_init 9 = .ok (.putfield 9, 3) := by decide +kernel
theorem dX6_init_12 : decode cX6_init 12 = .ok (.aload_n 0, 1) := by decide +kernel
theorem dX6_init_13 : decode cX6_init 13 = .ok (.iconst (-1), 1) := by decide +kernel
theorem dX6_init_14 : decode cX6_init 14 = .ok (.putfield 15, 3) := by decide +kernel
theorem dX6_init_17 : decode cX6_init 17 = .ok (.return_, 1) := by decide +kernel
theorem dX6_renew_0 : decode cX6_renew 0 = .ok (.aload_n 0, 1) := by decide +kernel
theorem dX6_renew_1 : decode cX6_renew 1 = .ok (.iload_n 1, 1) := by decide +kernel
