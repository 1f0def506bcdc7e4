theorem dX6_renew_2 : decode cX6_renew 2 = .ok (.putfield 15, 3) := by decide +kernel
theorem dX6_renew_5 : decode cX6_renew 5 = .ok (.aload_n 0, 1) := by decide +kernel
theorem dX6_renew_6 : decode cX6_renew 6 = .ok (.iload_n 2, 1) := by decide +kernel
theorem dX6_renew_7 : decode cX6_renew 7 = .ok (.putfield 19, 3) := by decide +kernel
theorem dX6_renew_10 : decode cX6_renew 10 = .ok (.aload_n 0, 1) := by decide +kernel
theorem dX6_renew_11 : decode cX6_renew 11 = .ok (.getfield 9, 3) := by decide +kernel
theorem dX6_renew_14 : decode cX6_renew 14 = .ok (.lconst 0, 1) := by decide +kernel
theorem dX6_renew_15 : decode cX6_renew 15 = .ok (.invokestatic 22, 3) := by decide +kernel
theorem dX6_renew_18 : decode cX6_renew 18 = .ok (.return_, 1) := by decide +kernel
theorem dX6_refusal_0 : decode cX6_refusal 0 = .ok (.aload_n 0, 1) := by decide +kernel
theorem dX6_refusal_1 : decode cX6_refusal 1 = .ok (.getfield 15, 3) := by decide +kernel
theorem dX6_refusal_4 : decode cX6_refusal 4 = .ok (.iconst (-1), 1) := by decide +kernel
theorem dX6_refusal_5 : decode cX6_refusal 5 = .ok (.if_icmp .ne 6, 3) := by decide +kernel
theorem dX6_refusal_8 : decode cX6_refusal 8 = .ok (.bipush (-11), 2) := by decide +kernel
theorem dX6_refusal_10 : decode cX6_refusal 10 = .ok (.ireturn, 1) := by decide +kernel
theorem dX6_refusal_11 : decode cX6_refusal 11 = .ok (.aload_n 0, 1) := by decide +kernel
theorem dX6_refusal_12 : decode cX6_refusal 12 = .ok (.getfield 15, 3) := by decide +kernel
theorem dX6_refusal_15 : decode cX6_refusal 15 = .ok (.iload_n 1, 1) := by decide +kernel
theorem dX6_refusal_16 : decode cX6_refusal 16 = .ok (.if_icmp .eq 6, 3) := by decide +kernel
theorem dX6_refusal_19 : decode cX6_refusal 19 = .ok (.bipush (-12), 2) := by decide +kernel
theorem dX6_refusal_21 : decode cX6_refusal 21 = .ok (.ireturn, 1) := by decide +kernel
theorem dX6_refusal_22 : decode cX6_refusal 22 = .ok (.aload_n 0, 1) := by decide +kernel
theorem dX6_refusal_23 : decode cX6_refusal 23 = .ok (.iload_n 2, 1) := by decide +kernel
theorem dX6_refusal_24 : decode cX6_refusal 24 = .ok (.iload_n 3, 1) := by decide +kernel
theorem dX6_refusal_25 : decode cX6_refusal 25 = .ok (.invokevirtual 28, 3) := by decide +kernel
theorem dX6_refusal_28 : decode cX6_refusal 28 = .ok (.ifCond .eq 8, 3) := by decide +kernel
theorem dX6_refusal_31 : decode cX6_refusal 31 = .ok (.bipush (-13), 2) := by decide +kernel
theorem dX6_refusal_33 : decode cX6_refusal 33 = .ok (.goto 4, 3) := by decide +kernel
theorem dX6_refusal_36 : decode cX6_refusal 36 = .ok (.iconst 0, 1) := by decide +kernel
theorem dX6_refusal_37 : decode cX6_refusal 37 = .ok (.ireturn, 1) := by decide +kernel
theorem dX6_lacks_0 : decode cX6_lacks 0 = .ok (.iload_n 1, 1) := by decide +kernel
theorem dX6_lacks_1 : decode cX6_lacks 1 = .ok (.ifCond .lt 17, 3) := by decide +kernel
theorem dX6_lacks_4 : decode cX6_lacks 4 = .ok (.iload_n 2, 1) := by decide +kernel
theorem dX6_lacks_5 : decode cX6_lacks 5 = .ok (.ifCond .lt 13, 3) := by decide +kernel
theorem dX6_lacks_8 : decode cX6_lacks 8 = .ok (.iload_n 2, 1) := by decide +kernel
theorem dX6_lacks_9 : decode cX6_lacks 9 = .ok (.aload_n 0, 1) := by decide +kernel
theorem dX6_lacks_10 : decode cX6_lacks 10 = .ok (.getfield 19, 3) := by decide +kernel
theorem dX6_lacks_13 : decode cX6_lacks 13 = .ok (.iload_n 1, 1) := by decide +kernel
theorem dX6_lacks_14 : decode cX6_lacks 14 = .ok (.isub, 1) := by decide +kernel
theorem dX6_lacks_15 : decode cX6_lacks 15 = .ok (.if_icmp .le 7, 3) := by decide +kernel
theorem dX6_lacks_18 : decode cX6_lacks 18 = .ok (.iconst 1, 1) := by decide +kernel
theorem dX6_lacks_19 : decode cX6_lacks 19 = .ok (.goto 4, 3) := by decide +kernel
theorem dX6_lacks_22 : decode cX6_lacks 22 = .ok (.iconst 0, 1) := by decide +kernel
theorem dX6_lacks_23 : decode cX6_lacks 23 = .ok (.ireturn, 1) := by decide +kernel
theorem dX6_put_0 : decode cX6_put 0 = .ok (.aload_n 0, 1) := by decide +kernel
theorem dX6_put_1 : decode cX6_put 1 = .ok (.getfield 15, 3) := by decide +kernel
theorem dX6_put_4 : decode cX6_put 4 = .ok (.tableswitch 66 0 2 #[28, 41, 54], 28) := by decide +kernel
theorem dX6_put_32 : decode cX6_put 32 = .ok (.aload_n 0, 1) := by decide +kernel
theorem dX6_put_33 : decode cX6_put 33 = .ok (.getfield 9, 3) := by decide +kernel
theorem dX6_put_36 : decode cX6_put 36 = .ok (.iload_n 1, 1) := by decide +kernel
theorem dX6_put_37 : decode cX6_put 37 = .ok (.lload_n 2, 1) := by decide +kernel
theorem dX6_put_38 : decode cX6_put 38 = .ok (.l2i, 1) := by decide +kernel
theorem dX6_put_39 : decode cX6_put 39 = .ok (.i2b, 1) := by decide +kernel
theorem dX6_put_40 : decode cX6_put 40 = .ok (.i2l, 1) := by decide +kernel
theorem dX6_put_41 : decode cX6_put 41 = .ok (.lastore, 1) := by decide +kernel
theorem dX6_put_42 : decode cX6_put 42 = .ok (.goto 35, 3) := by decide +kernel
theorem dX6_put_45 : decode cX6_put 45 = .ok (.aload_n 0, 1) := by decide +kernel
theorem dX6_put_46 : decode cX6_put 46 = .ok (.getfield 9, 3) := by decide +kernel
theorem dX6_put_49 : decode cX6_put 49 = .ok (.iload_n 1, 1) := by decide +kernel
theorem dX6_put_50 : decode cX6_put 50 = .ok (.lload_n 2, 1) := by decide +kernel
theorem dX6_put_51 : decode cX6_put 51 = .ok (.l2i, 1) := by decide +kernel
theorem dX6_put_52 : decode cX6_put 52 = .ok (.i2s, 1) := by decide +kernel
theorem dX6_put_53 : decode cX6_put 53 = .ok (.i2l, 1) := by decide +kernel
theorem dX6_put_54 : decode cX6_put 54 = .ok (.lastore, 1) := by decide +kernel
theorem dX6_put_55 : decode cX6_put 55 = .ok (.goto 22, 3) := by decide +kernel
theorem dX6_put_58 : decode cX6_put 58 = .ok (.aload_n 0, 1) := by decide +kernel
theorem dX6_put_59 : decode cX6_put 59 = .ok (.getfield 9, 3) := by decide +kernel
theorem dX6_put_62 : decode cX6_put 62 = .ok (.iload_n 1, 1) := by decide +kernel
theorem dX6_put_63 : decode cX6_put 63 = .ok (.lload_n 2, 1) := by decide +kernel
theorem dX6_put_64 : decode cX6_put 64 = .ok (.l2i, 1) := by decide +kernel
theorem dX6_put_65 : decode cX6_put 65 = .ok (.i2l, 1) := by decide +kernel
theorem dX6_put_66 : decode cX6_put 66 = .ok (.lastore, 1) := by decide +kernel
theorem dX6_put_67 : decode cX6_put 67 = .ok (.goto 10, 3) := by decide +kernel
theorem dX6_put_70 : decode cX6_put 70 = .ok (.aload_n 0, 1) := by decide +kernel
theorem dX6_put_71 : decode cX6_put 71 = .ok (.getfield 9, 3) := by decide +kernel
theorem dX6_put_74 : decode cX6_put 74 = .ok (.iload_n 1, 1) := by decide +kernel
theorem dX6_put_75 : decode cX6_put 75 = .ok (.lload_n 2, 1) := by decide +kernel
theorem dX6_put_76 : decode cX6_put 76 = .ok (.lastore, 1) := by decide +kernel
theorem dX6_put_77 : decode cX6_put 77 = .ok (.return_, 1) := by decide +kernel
theorem dX7_init_0 : decode cX7_init 0 = .ok (.aload_n 0, 1) := by decide +kernel
theorem dX7_init_1 : decode cX7_init 1 = .ok (.invokespecial 3, 3) := by decide +kernel
theorem dX7_init_4 : decode cX7_init 4 = .ok (.aload_n 0, 1) := by decide +kernel
theorem dX7_init_5 : decode cX7_init 5 = .ok (.bipush 90, 2) := by decide +kernel
theorem dX7_init_7 : decode cX7_init 7 = .ok (.newarray .char, 2) := by decide +kernel
theorem dX7_init_9 : decode cX7_init 9 = .ok (.putfield 9, 3) := by decide +kernel
theorem dX7_init_12 : decode cX7_init 12 = .ok (.return_, 1) := by decide +kernel
theorem dX8_init_0 : decode cX8_init 0 = .ok (.aload_n 0, 1) := by decide +kernel
theorem dX8_init_1 : decode cX8_init 1 = .ok (.invokespecial 3, 3) := by decide +kernel
theorem dX8_init_4 : decode cX8_init 4 = .ok (.aload_n 0, 1) := by decide +kernel
theorem dX8_init_5 : decode cX8_init 5 = .ok (.new 9, 3) := by decide +kernel
theorem dX8_init_8 : decode cX8_init 8 = .ok (.dup, 1) := by decide +kernel
theorem dX8_init_9 : decode cX8_init 9 = .ok (.invokespecial 11, 3) := by decide +kernel
theorem dX8_init_12 : decode cX8_init 12 = .ok (.putfield 12, 3) := by decide +kernel
theorem dX8_init_15 : decode cX8_init 15 = .ok (.aload_n 0, 1) := by decide +kernel
theorem dX8_init_16 : decode cX8_init 16 = .ok (.new 16, 3) := by decide +kernel
theorem dX8_init_19 : decode cX8_init 19 = .ok (.dup, 1) := by decide +kernel
theorem dX8_init_20 : decode cX8_init 20 = .ok (.invokespecial 18, 3) := by decide +kernel
theorem dX8_init_23 : decode cX8_init 23 = .ok (.putfield 19, 3) := by decide +kernel
theorem dX8_init_26 : decode cX8_init 26 = .ok (.aload_n 0, 1) := by decide +kernel
theorem dX8_init_27 : decode cX8_init 27 = .ok (.new 9, 3) := by decide +kernel
theorem dX8_init_30 : decode cX8_init 30 = .ok (.dup, 1) := by decide +kernel
theorem dX8_init_31 : decode cX8_init 31 = .ok (.invokespecial 11, 3) := by decide +kernel
theorem dX8_init_34 : decode cX8_init 34 = .ok (.putfield 23, 3) := by decide +kernel
theorem dX8_init_37 : decode cX8_init 37 = .ok (.aload_n 0, 1) := by decide +kernel
theorem dX8_init_38 : decode cX8_init 38 = .ok (.new 16, 3) := by decide +kernel
theorem dX8_init_41 : decode cX8_init 41 = .ok (.dup, 1) := by decide +kernel
theorem dX8_init_42 : decode cX8_init 42 = .ok (.invokespecial 18, 3) := by decide +kernel
theorem dX8_init_45 : decode cX8_init 45 = .ok (.putfield 26, 3) := by decide +kernel
theorem dX8_init_48 : decode cX8_init 48 = .ok (.aload_n 0, 1) := by decide +kernel
theorem dX8_init_49 : decode cX8_init 49 = .ok (.new 29, 3) := by decide +kernel
theorem dX8_init_52 : decode cX8_init 52 = .ok (.dup, 1) := by decide +kernel
theorem dX8_init_53 : decode cX8_init 53 = .ok (.invokespecial 31, 3) := by decide +kernel
theorem dX8_init_56 : decode cX8_init 56 = .ok (.putfield 32, 3) := by decide +kernel
theorem dX8_init_59 : decode cX8_init 59 = .ok (.aload_n 0, 1) := by decide +kernel
theorem dX8_init_60 : decode cX8_init 60 = .ok (.iconst 4, 1) := by decide +kernel
theorem dX8_init_61 : decode cX8_init 61 = .ok (.anewarray 36, 3) := by decide +kernel
theorem dX8_init_64 : decode cX8_init 64 = .ok (.putfield 38, 3) := by decide +kernel
theorem dX8_init_67 : decode cX8_init 67 = .ok (.aload_n 0, 1) := by decide +kernel
theorem dX8_init_68 : decode cX8_init 68 = .ok (.new 42, 3) := by decide +kernel
theorem dX8_init_71 : decode cX8_init 71 = .ok (.dup, 1) := by decide +kernel
theorem dX8_init_72 : decode cX8_init 72 = .ok (.invokespecial 44, 3) := by decide +kernel
theorem dX8_init_75 : decode cX8_init 75 = .ok (.putfield 45, 3) := by decide +kernel
theorem dX8_init_78 : decode cX8_init 78 = .ok (.aload_n 0, 1) := by decide +kernel
theorem dX8_init_79 : decode cX8_init 79 = .ok (.new 49, 3) := by decide +kernel
theorem dX8_init_82 : decode cX8_init 82 = .ok (.dup, 1) := by decide +kernel
theorem dX8_init_83 : decode cX8_init 83 = .ok (.invokespecial 51, 3) := by decide +kernel
theorem dX8_init_86 : decode cX8_init 86 = .ok (.putfield 52, 3) := by decide +kernel
theorem dX8_init_89 : decode cX8_init 89 = .ok (.iconst 0, 1) := by decide +kernel
theorem dX8_init_90 : decode cX8_init 90 = .ok (.istore_n 1, 1) := by decide +kernel
theorem dX8_init_91 : decode cX8_init 91 = .ok (.iload_n 1, 1) := by decide +kernel
theorem dX8_init_92 : decode cX8_init 92 = .ok (.iconst 4, 1) := by decide +kernel
theorem dX8_init_93 : decode cX8_init 93 = .ok (.if_icmp .ge 22, 3) := by decide +kernel
theorem dX8_init_96 : decode cX8_init 96 = .ok (.aload_n 0, 1) := by decide +kernel
theorem dX8_init_97 : decode cX8_init 97 = .ok (.getfield 38, 3) := by decide +kernel
theorem dX8_init_100 : decode cX8_init 100 = .ok (.iload_n 1, 1) := by decide +kernel
theorem dX8_init_101 : decode cX8_init 101 = .ok (.new 36, 3) := by decide +kernel
theorem dX8_init_104 : decode cX8_init 104 = .ok (.dup, 1) := by decide +kernel
theorem dX8_init_105 : decode cX8_init 105 = .ok (.invokespecial 56, 3) := by decide +kernel
theorem dX8_init_108 : decode cX8_init 108 = .ok (.aastore, 1) := by decide +kernel
theorem dX8_init_109 : decode cX8_init 109 = .ok (.iinc 1 1, 3) := by decide +kernel
theorem dX8_init_112 : decode cX8_init 112 = .ok (.goto (-21), 3) := by decide +kernel
theorem dX8_init_115 : decode cX8_init 115 = .ok (.return_, 1) := by decide +kernel
theorem dX8_come_0 : decode cX8_come 0 = .ok (.iload_n 1, 1) := by decide +kernel
theorem dX8_come_1 : decode cX8_come 1 = .ok (.invokestatic 57, 3) := by decide +kernel
theorem dX8_come_4 : decode cX8_come 4 = .ok (.ifCond .eq 5, 3) := by decide +kernel
theorem dX8_come_7 : decode cX8_come 7 = .ok (.iconst (-1), 1) := by decide +kernel
theorem dX8_come_8 : decode cX8_come 8 = .ok (.ireturn, 1) := by decide +kernel
theorem dX8_come_9 : decode cX8_come 9 = .ok (.aload_n 0, 1) := by decide +kernel
theorem dX8_come_10 : decode cX8_come 10 = .ok (.getfield 12, 3) := by decide +kernel
theorem dX8_come_13 : decode cX8_come 13 = .ok (.iload_n 1, 1) := by decide +kernel
theorem dX8_come_14 : decode cX8_come 14 = .ok (.invokevirtual 61, 3) := by decide +kernel
theorem dX8_come_17 : decode cX8_come 17 = .ok (.ifCond .ne 6, 3) := by decide +kernel
theorem dX8_come_20 : decode cX8_come 20 = .ok (.bipush (-2), 2) := by decide +kernel
theorem dX8_come_22 : decode cX8_come 22 = .ok (.ireturn, 1) := by decide +kernel
theorem dX8_come_23 : decode cX8_come 23 = .ok (.aload_n 0, 1) := by decide +kernel
theorem dX8_come_24 : decode cX8_come 24 = .ok (.getfield 19, 3) := by decide +kernel
theorem dX8_come_27 : decode cX8_come 27 = .ok (.aload_n 0, 1) := by decide +kernel
theorem dX8_come_28 : decode cX8_come 28 = .ok (.getfield 12, 3) := by decide +kernel
theorem dX8_come_31 : decode cX8_come 31 = .ok (.invokevirtual 64, 3) := by decide +kernel
theorem dX8_come_34 : decode cX8_come 34 = .ok (.aload_n 0, 1) := by decide +kernel
theorem dX8_come_35 : decode cX8_come 35 = .ok (.getfield 12, 3) := by decide +kernel
theorem dX8_come_38 : decode cX8_come 38 = .ok (.iload_n 1, 1) := by decide +kernel
theorem dX8_come_39 : decode cX8_come 39 = .ok (.invokevirtual 68, 3) := by decide +kernel
theorem dX8_come_42 : decode cX8_come 42 = .ok (.aload_n 0, 1) := by decide +kernel
theorem dX8_come_43 : decode cX8_come 43 = .ok (.getfield 12, 3) := by decide +kernel
theorem dX8_come_46 : decode cX8_come 46 = .ok (.getfield 72, 3) := by decide +kernel
theorem dX8_come_49 : decode cX8_come 49 = .ok (.invokestatic 76, 3) := by decide +kernel
theorem dX8_come_52 : decode cX8_come 52 = .ok (.ireturn, 1) := by decide +kernel
theorem dX8_leave_0 : decode cX8_leave 0 = .ok (.iload_n 1, 1) := by decide +kernel
theorem dX8_leave_1 : decode cX8_leave 1 = .ok (.invokestatic 57, 3) := by decide +kernel
theorem dX8_leave_4 : decode cX8_leave 4 = .ok (.ifCond .eq 5, 3) := by decide +kernel
theorem dX8_leave_7 : decode cX8_leave 7 = .ok (.iconst (-1), 1) := by decide +kernel
theorem dX8_leave_8 : decode cX8_leave 8 = .ok (.ireturn, 1) := by decide +kernel
theorem dX8_leave_9 : decode cX8_leave 9 = .ok (.aload_n 0, 1) := by decide +kernel
theorem dX8_leave_10 : decode cX8_leave 10 = .ok (.getfield 12, 3) := by decide +kernel
theorem dX8_leave_13 : decode cX8_leave 13 = .ok (.iload_n 1, 1) := by decide +kernel
theorem dX8_leave_14 : decode cX8_leave 14 = .ok (.invokevirtual 82, 3) := by decide +kernel
theorem dX8_leave_17 : decode cX8_leave 17 = .ok (.ifCond .ne 6, 3) := by decide +kernel
theorem dX8_leave_20 : decode cX8_leave 20 = .ok (.bipush (-2), 2) := by decide +kernel
theorem dX8_leave_22 : decode cX8_leave 22 = .ok (.ireturn, 1) := by decide +kernel
theorem dX8_leave_23 : decode cX8_leave 23 = .ok (.aload_n 0, 1) := by decide +kernel
theorem dX8_leave_24 : decode cX8_leave 24 = .ok (.getfield 19, 3) := by decide +kernel
theorem dX8_leave_27 : decode cX8_leave 27 = .ok (.aload_n 0, 1) := by decide +kernel
theorem dX8_leave_28 : decode cX8_leave 28 = .ok (.getfield 12, 3) := by decide +kernel
theorem dX8_leave_31 : decode cX8_leave 31 = .ok (.invokevirtual 64, 3) := by decide +kernel
theorem dX8_leave_34 : decode cX8_leave 34 = .ok (.aload_n 0, 1) := by decide +kernel
theorem dX8_leave_35 : decode cX8_leave 35 = .ok (.getfield 12, 3) := by decide +kernel
theorem dX8_leave_38 : decode cX8_leave 38 = .ok (.iload_n 1, 1) := by decide +kernel
theorem dX8_leave_39 : decode cX8_leave 39 = .ok (.invokevirtual 85, 3) := by decide +kernel
theorem dX8_leave_42 : decode cX8_leave 42 = .ok (.aload_n 0, 1) := by decide +kernel
theorem dX8_leave_43 : decode cX8_leave 43 = .ok (.getfield 12, 3) := by decide +kernel
theorem dX8_leave_46 : decode cX8_leave 46 = .ok (.getfield 88, 3) := by decide +kernel
theorem dX8_leave_49 : decode cX8_leave 49 = .ok (.invokestatic 76, 3) := by decide +kernel
theorem dX8_leave_52 : decode cX8_leave 52 = .ok (.ireturn, 1) := by decide +kernel
theorem dX8_batch_0 : decode cX8_batch 0 = .ok (.aload_n 0, 1) := by decide +kernel
theorem dX8_batch_1 : decode cX8_batch 1 = .ok (.getfield 12, 3) := by decide +kernel
theorem dX8_batch_4 : decode cX8_batch 4 = .ok (.invokevirtual 91, 3) := by decide +kernel
theorem dX8_batch_7 : decode cX8_batch 7 = .ok (.istore_n 1, 1) := by decide +kernel
theorem dX8_batch_8 : decode cX8_batch 8 = .ok (.iload_n 1, 1) := by decide +kernel
theorem dX8_batch_9 : decode cX8_batch 9 = .ok (.ifCond .eq 5, 3) := by decide +kernel
theorem dX8_batch_12 : decode cX8_batch 12 = .ok (.iload_n 1, 1) := by decide +kernel
theorem dX8_batch_13 : decode cX8_batch 13 = .ok (.ireturn, 1) := by decide +kernel
theorem dX8_batch_14 : decode cX8_batch 14 = .ok (.aload_n 0, 1) := by decide +kernel
theorem dX8_batch_15 : decode cX8_batch 15 = .ok (.getfield 19, 3) := by decide +kernel
theorem dX8_batch_18 : decode cX8_batch 18 = .ok (.aload_n 0, 1) := by decide +kernel
theorem dX8_batch_19 : decode cX8_batch 19 = .ok (.getfield 12, 3) := by decide +kernel
theorem dX8_batch_22 : decode cX8_batch 22 = .ok (.invokevirtual 64, 3) := by decide +kernel
theorem dX8_batch_25 : decode cX8_batch 25 = .ok (.aload_n 0, 1) := by decide +kernel
theorem dX8_batch_26 : decode cX8_batch 26 = .ok (.getfield 12, 3) := by decide +kernel
theorem dX8_batch_29 : decode cX8_batch 29 = .ok (.invokevirtual 95, 3) := by decide +kernel
theorem dX8_batch_32 : decode cX8_batch 32 = .ok (.ireturn, 1) := by decide +kernel
theorem dX8_late_0 : decode cX8_late 0 = .ok (.iload_n 1, 1) := by decide +kernel
theorem dX8_late_1 : decode cX8_late 1 = .ok (.invokestatic 57, 3) := by decide +kernel
theorem dX8_late_4 : decode cX8_late 4 = .ok (.ifCond .ne 12, 3) := by decide +kernel
theorem dX8_late_7 : decode cX8_late 7 = .ok (.iload_n 2, 1) := by decide +kernel
theorem dX8_late_8 : decode cX8_late 8 = .ok (.ifCond .lt 8, 3) := by decide +kernel
theorem dX8_late_11 : decode cX8_late 11 = .ok (.iload_n 2, 1) := by decide +kernel
theorem dX8_late_12 : decode cX8_late 12 = .ok (.iconst 1, 1) := by decide +kernel
theorem dX8_late_13 : decode cX8_late 13 = .ok (.if_icmp .le 5, 3) := by decide +kernel
theorem dX8_late_16 : decode cX8_late 16 = .ok (.iconst (-1), 1) := by decide +kernel
theorem dX8_late_17 : decode cX8_late 17 = .ok (.ireturn, 1) := by decide +kernel
theorem dX8_late_18 : decode cX8_late 18 = .ok (.iload_n 2, 1) := by decide +kernel
theorem dX8_late_19 : decode cX8_late 19 = .ok (.iconst 1, 1) := by decide +kernel
theorem dX8_late_20 : decode cX8_late 20 = .ok (.if_icmp .ne 7, 3) := by decide +kernel
theorem dX8_late_23 : decode cX8_late 23 = .ok (.iconst 1, 1) := by decide +kernel
theorem dX8_late_24 : decode cX8_late 24 = .ok (.goto 4, 3) := by decide +kernel
theorem dX8_late_27 : decode cX8_late 27 = .ok (.iconst 0, 1) := by decide +kernel
theorem dX8_late_28 : decode cX8_late 28 = .ok (.istore_n 3, 1) := by decide +kernel
theorem dX8_late_29 : decode cX8_late 29 = .ok (.iload_n 3, 1) := by decide +kernel
theorem dX8_late_30 : decode cX8_late 30 = .ok (.ifCond .eq 14, 3) := by decide +kernel
theorem dX8_late_33 : decode cX8_late 33 = .ok (.aload_n 0, 1) := by decide +kernel
theorem dX8_late_34 : decode cX8_late 34 = .ok (.getfield 12, 3) := by decide +kernel
theorem dX8_late_37 : decode cX8_late 37 = .ok (.iload_n 1, 1) := by decide +kernel
theorem dX8_late_38 : decode cX8_late 38 = .ok (.invokevirtual 98, 3) := by decide +kernel
theorem dX8_late_41 : decode cX8_late 41 = .ok (.goto 11, 3) := by decide +kernel
theorem dX8_late_44 : decode cX8_late 44 = .ok (.aload_n 0, 1) := by decide +kernel
theorem dX8_late_45 : decode cX8_late 45 = .ok (.getfield 12, 3) := by decide +kernel
theorem dX8_late_48 : decode cX8_late 48 = .ok (.iload_n 1, 1) := by decide +kernel
theorem dX8_late_49 : decode cX8_late 49 = .ok (.invokevirtual 101, 3) := by decide +kernel
theorem dX8_late_52 : decode cX8_late 52 = .ok (.istore 4, 2) := by decide +kernel
theorem dX8_late_54 : decode cX8_late 54 = .ok (.iload 4, 2) := by decide +kernel
theorem dX8_late_56 : decode cX8_late 56 = .ok (.ifCond .ne 6, 3) := by decide +kernel
theorem dX8_late_59 : decode cX8_late 59 = .ok (.bipush (-2), 2) := by decide +kernel
theorem dX8_late_61 : decode cX8_late 61 = .ok (.ireturn, 1) := by decide +kernel
theorem dX8_late_62 : decode cX8_late 62 = .ok (.aload_n 0, 1) := by decide +kernel
theorem dX8_late_63 : decode cX8_late 63 = .ok (.getfield 19, 3) := by decide +kernel
theorem dX8_late_66 : decode cX8_late 66 = .ok (.aload_n 0, 1) := by decide +kernel
theorem dX8_late_67 : decode cX8_late 67 = .ok (.getfield 12, 3) := by decide +kernel
theorem dX8_late_70 : decode cX8_late 70 = .ok (.invokevirtual 64, 3) := by decide +kernel
theorem dX8_late_73 : decode cX8_late 73 = .ok (.iload_n 3, 1) := by decide +kernel
theorem dX8_late_74 : decode cX8_late 74 = .ok (.ifCond .eq 14, 3) := by decide +kernel
theorem dX8_late_77 : decode cX8_late 77 = .ok (.aload_n 0, 1) := by decide +kernel
theorem dX8_late_78 : decode cX8_late 78 = .ok (.getfield 12, 3) := by decide +kernel
theorem dX8_late_81 : decode cX8_late 81 = .ok (.iload_n 1, 1) := by decide +kernel
theorem dX8_late_82 : decode cX8_late 82 = .ok (.invokevirtual 104, 3) := by decide +kernel
theorem dX8_late_85 : decode cX8_late 85 = .ok (.goto 11, 3) := by decide +kernel
theorem dX8_late_88 : decode cX8_late 88 = .ok (.aload_n 0, 1) := by decide +kernel
theorem dX8_late_89 : decode cX8_late 89 = .ok (.getfield 12, 3) := by decide +kernel
theorem dX8_late_92 : decode cX8_late 92 = .ok (.iload_n 1, 1) := by decide +kernel
theorem dX8_late_93 : decode cX8_late 93 = .ok (.invokevirtual 107, 3) := by decide +kernel
theorem dX8_late_96 : decode cX8_late 96 = .ok (.ireturn, 1) := by decide +kernel
theorem dX8_lose_0 : decode cX8_lose 0 = .ok (.iload_n 1, 1) := by decide +kernel
theorem dX8_lose_1 : decode cX8_lose 1 = .ok (.invokestatic 57, 3) := by decide +kernel
theorem dX8_lose_4 : decode cX8_lose 4 = .ok (.ifCond .ne 14, 3) := by decide +kernel
theorem dX8_lose_7 : decode cX8_lose 7 = .ok (.iload_n 2, 1) := by decide +kernel
theorem dX8_lose_8 : decode cX8_lose 8 = .ok (.iconst 1, 1) := by decide +kernel
theorem dX8_lose_9 : decode cX8_lose 9 = .ok (.if_icmp .lt 9, 3) := by decide +kernel
theorem dX8_lose_12 : decode cX8_lose 12 = .ok (.iload_n 2, 1) := by decide +kernel
theorem dX8_lose_13 : decode cX8_lose 13 = .ok (.bipush 40, 2) := by decide +kernel
theorem dX8_lose_15 : decode cX8_lose 15 = .ok (.if_icmp .le 5, 3) := by decide +kernel
theorem dX8_lose_18 : decode cX8_lose 18 = .ok (.iconst (-1), 1) := by decide +kernel
theorem dX8_lose_19 : decode cX8_lose 19 = .ok (.ireturn, 1) := by decide +kernel
theorem dX8_lose_20 : decode cX8_lose 20 = .ok (.aload_n 0, 1) := by decide +kernel
theorem dX8_lose_21 : decode cX8_lose 21 = .ok (.getfield 12, 3) := by decide +kernel
theorem dX8_lose_24 : decode cX8_lose 24 = .ok (.iload_n 1, 1) := by decide +kernel
theorem dX8_lose_25 : decode cX8_lose 25 = .ok (.invokevirtual 101, 3) := by decide +kernel
theorem dX8_lose_28 : decode cX8_lose 28 = .ok (.ifCond .ne 6, 3) := by decide +kernel
theorem dX8_lose_31 : decode cX8_lose 31 = .ok (.bipush (-2), 2) := by decide +kernel
theorem dX8_lose_33 : decode cX8_lose 33 = .ok (.ireturn, 1) := by decide +kernel
theorem dX8_lose_34 : decode cX8_lose 34 = .ok (.aload_n 0, 1) := by decide +kernel
theorem dX8_lose_35 : decode cX8_lose 35 = .ok (.getfield 19, 3) := by decide +kernel
theorem dX8_lose_38 : decode cX8_lose 38 = .ok (.aload_n 0, 1) := by decide +kernel
theorem dX8_lose_39 : decode cX8_lose 39 = .ok (.getfield 12, 3) := by decide +kernel
theorem dX8_lose_42 : decode cX8_lose 42 = .ok (.invokevirtual 64, 3) := by decide +kernel
theorem dX8_lose_45 : decode cX8_lose 45 = .ok (.aload_n 0, 1) := by decide +kernel
theorem dX8_lose_46 : decode cX8_lose 46 = .ok (.getfield 12, 3) := by decide +kernel
theorem dX8_lose_49 : decode cX8_lose 49 = .ok (.iload_n 1, 1) := by decide +kernel
theorem dX8_lose_50 : decode cX8_lose 50 = .ok (.iload_n 2, 1) := by decide +kernel
theorem dX8_lose_51 : decode cX8_lose 51 = .ok (.invokevirtual 110, 3) := by decide +kernel
theorem dX8_lose_54 : decode cX8_lose 54 = .ok (.ireturn, 1) := by decide +kernel
theorem dX8_mend_0 : decode cX8_mend 0 = .ok (.iload_n 1, 1) := by decide +kernel
theorem dX8_mend_1 : decode cX8_mend 1 = .ok (.invokestatic 57, 3) := by decide +kernel
theorem dX8_mend_4 : decode cX8_mend 4 = .ok (.ifCond .eq 5, 3) := by decide +kernel
theorem dX8_mend_7 : decode cX8_mend 7 = .ok (.iconst (-1), 1) := by decide +kernel
theorem dX8_mend_8 : decode cX8_mend 8 = .ok (.ireturn, 1) := by decide +kernel
theorem dX8_mend_9 : decode cX8_mend 9 = .ok (.aload_n 0, 1) := by decide +kernel
theorem dX8_mend_10 : decode cX8_mend 10 = .ok (.getfield 12, 3) := by decide +kernel
theorem dX8_mend_13 : decode cX8_mend 13 = .ok (.iload_n 1, 1) := by decide +kernel
theorem dX8_mend_14 : decode cX8_mend 14 = .ok (.invokevirtual 114, 3) := by decide +kernel
theorem dX8_mend_17 : decode cX8_mend 17 = .ok (.istore_n 2, 1) := by decide +kernel
theorem dX8_mend_18 : decode cX8_mend 18 = .ok (.iload_n 2, 1) := by decide +kernel
theorem dX8_mend_19 : decode cX8_mend 19 = .ok (.ifCond .eq 5, 3) := by decide +kernel
theorem dX8_mend_22 : decode cX8_mend 22 = .ok (.iload_n 2, 1) := by decide +kernel
theorem dX8_mend_23 : decode cX8_mend 23 = .ok (.ireturn, 1) := by decide +kernel
theorem dX8_mend_24 : decode cX8_mend 24 = .ok (.aload_n 0, 1) := by decide +kernel
theorem dX8_mend_25 : decode cX8_mend 25 = .ok (.getfield 19, 3) := by decide +kernel
theorem dX8_mend_28 : decode cX8_mend 28 = .ok (.aload_n 0, 1) := by decide +kernel
theorem dX8_mend_29 : decode cX8_mend 29 = .ok (.getfield 12, 3) := by decide +kernel
theorem dX8_mend_32 : decode cX8_mend 32 = .ok (.invokevirtual 64, 3) := by decide +kernel
theorem dX8_mend_35 : decode cX8_mend 35 = .ok (.aload_n 0, 1) := by decide +kernel
theorem dX8_mend_36 : decode cX8_mend 36 = .ok (.getfield 12, 3) := by decide +kernel
theorem dX8_mend_39 : decode cX8_mend 39 = .ok (.iload_n 1, 1) := by decide +kernel
theorem dX8_mend_40 : decode cX8_mend 40 = .ok (.invokevirtual 117, 3) := by decide +kernel
theorem dX8_mend_43 : decode cX8_mend 43 = .ok (.ireturn, 1) := by decide +kernel
theorem dX8_begin_0 : decode cX8_begin 0 = .ok (.aload_n 0, 1) := by decide +kernel
theorem dX8_begin_1 : decode cX8_begin 1 = .ok (.getfield 12, 3) := by decide +kernel
theorem dX8_begin_4 : decode cX8_begin 4 = .ok (.getfield 120, 3) := by decide +kernel
theorem dX8_begin_7 : decode cX8_begin 7 = .ok (.getfield 124, 3) := by decide +kernel
theorem dX8_begin_10 : decode cX8_begin 10 = .ok (.ifCond .ne 16, 3) := by decide +kernel
theorem dX8_begin_13 : decode cX8_begin 13 = .ok (.aload_n 0, 1) := by decide +kernel
theorem dX8_begin_14 : decode cX8_begin 14 = .ok (.getfield 12, 3) := by decide +kernel
theorem dX8_begin_17 : decode cX8_begin 17 = .ok (.getfield 72, 3) := by decide +kernel
theorem dX8_begin_20 : decode cX8_begin 20 = .ok (.ifCond .ne 6, 3) := by decide +kernel
theorem dX8_begin_23 : decode cX8_begin 23 = .ok (.bipush (-2), 2) := by decide +kernel
theorem dX8_begin_25 : decode cX8_begin 25 = .ok (.ireturn, 1) := by decide +kernel
theorem dX8_begin_26 : decode cX8_begin 26 = .ok (.aload_n 0, 1) := by decide +kernel
theorem dX8_begin_27 : decode cX8_begin 27 = .ok (.getfield 19, 3) := by decide +kernel
theorem dX8_begin_30 : decode cX8_begin 30 = .ok (.aload_n 0, 1) := by decide +kernel
theorem dX8_begin_31 : decode cX8_begin 31 = .ok (.getfield 12, 3) := by decide +kernel
theorem dX8_begin_34 : decode cX8_begin 34 = .ok (.invokevirtual 64, 3) := by decide +kernel
theorem dX8_begin_37 : decode cX8_begin 37 = .ok (.aload_n 0, 1) := by decide +kernel
theorem dX8_begin_38 : decode cX8_begin 38 = .ok (.getfield 12, 3) := by decide +kernel
theorem dX8_begin_41 : decode cX8_begin 41 = .ok (.getfield 120, 3) := by decide +kernel
theorem dX8_begin_44 : decode cX8_begin 44 = .ok (.getfield 124, 3) := by decide +kernel
theorem dX8_begin_47 : decode cX8_begin 47 = .ok (.istore_n 1, 1) := by decide +kernel
theorem dX8_begin_48 : decode cX8_begin 48 = .ok (.aload_n 0, 1) := by decide +kernel
theorem dX8_begin_49 : decode cX8_begin 49 = .ok (.getfield 12, 3) := by decide +kernel
theorem dX8_begin_52 : decode cX8_begin 52 = .ok (.invokevirtual 129, 3) := by decide +kernel
theorem dX8_begin_55 : decode cX8_begin 55 = .ok (.iload_n 1, 1) := by decide +kernel
theorem dX8_begin_56 : decode cX8_begin 56 = .ok (.ireturn, 1) := by decide +kernel
theorem dX8_member_0 : decode cX8_member 0 = .ok (.iload_n 1, 1) := by decide +kernel
theorem dX8_member_1 : decode cX8_member 1 = .ok (.invokestatic 57, 3) := by decide +kernel
theorem dX8_member_4 : decode cX8_member 4 = .ok (.ifCond .eq 5, 3) := by decide +kernel
theorem dX8_member_7 : decode cX8_member 7 = .ok (.iconst (-1), 1) := by decide +kernel
theorem dX8_member_8 : decode cX8_member 8 = .ok (.ireturn, 1) := by decide +kernel
theorem dX8_member_9 : decode cX8_member 9 = .ok (.iload_n 2, 1) := by decide +kernel
theorem dX8_member_10 : decode cX8_member 10 = .ok (.tableswitch 187 0 5 #[38, 70, 82, 121, 133, 161], 38) := by decide +kernel
theorem dX8_member_48 : decode cX8_member 48 = .ok (.aload_n 0, 1) := by decide +kernel
theorem dX8_member_49 : decode cX8_member 49 = .ok (.getfield 12, 3) := by decide +kernel
theorem dX8_member_52 : decode cX8_member 52 = .ok (.getfield 132, 3) := by decide +kernel
theorem dX8_member_55 : decode cX8_member 55 = .ok (.iload_n 1, 1) := by decide +kernel
theorem dX8_member_56 : decode cX8_member 56 = .ok (.invokevirtual 135, 3) := by decide +kernel
theorem dX8_member_59 : decode cX8_member 59 = .ok (.ifCond .eq 18, 3) := by decide +kernel
theorem dX8_member_62 : decode cX8_member 62 = .ok (.aload_n 0, 1) := by decide +kernel
theorem dX8_member_63 : decode cX8_member 63 = .ok (.getfield 12, 3) := by decide +kernel
theorem dX8_member_66 : decode cX8_member 66 = .ok (.getfield 132, 3) := by decide +kernel
theorem dX8_member_69 : decode cX8_member 69 = .ok (.getfield 138, 3) := by decide +kernel
theorem dX8_member_72 : decode cX8_member 72 = .ok (.iload_n 1, 1) := by decide +kernel
theorem dX8_member_73 : decode cX8_member 73 = .ok (.iaload, 1) := by decide +kernel
theorem dX8_member_74 : decode cX8_member 74 = .ok (.goto 5, 3) := by decide +kernel
theorem dX8_member_77 : decode cX8_member 77 = .ok (.bipush (-4), 2) := by decide +kernel
theorem dX8_member_79 : decode cX8_member 79 = .ok (.ireturn, 1) := by decide +kernel
theorem dX8_member_80 : decode cX8_member 80 = .ok (.aload_n 0, 1) := by decide +kernel
theorem dX8_member_81 : decode cX8_member 81 = .ok (.getfield 12, 3) := by decide +kernel
theorem dX8_member_84 : decode cX8_member 84 = .ok (.getfield 120, 3) := by decide +kernel
theorem dX8_member_87 : decode cX8_member 87 = .ok (.iload_n 1, 1) := by decide +kernel
theorem dX8_member_88 : decode cX8_member 88 = .ok (.invokevirtual 142, 3) := by decide +kernel
theorem dX8_member_91 : decode cX8_member 91 = .ok (.ireturn, 1) := by decide +kernel
theorem dX8_member_92 : decode cX8_member 92 = .ok (.aload_n 0, 1) := by decide +kernel
theorem dX8_member_93 : decode cX8_member 93 = .ok (.getfield 12, 3) := by decide +kernel
theorem dX8_member_96 : decode cX8_member 96 = .ok (.invokevirtual 145, 3) := by decide +kernel
theorem dX8_member_99 : decode cX8_member 99 = .ok (.bipush (-4), 2) := by decide +kernel
theorem dX8_member_101 : decode cX8_member 101 = .ok (.if_icmp .ne 8, 3) := by decide +kernel
theorem dX8_member_104 : decode cX8_member 104 = .ok (.bipush (-4), 2) := by decide +kernel
theorem dX8_member_106 : decode cX8_member 106 = .ok (.goto 24, 3) := by decide +kernel
theorem dX8_member_109 : decode cX8_member 109 = .ok (.aload_n 0, 1) := by decide +kernel
theorem dX8_member_110 : decode cX8_member 110 = .ok (.getfield 12, 3) := by decide +kernel
theorem dX8_member_113 : decode cX8_member 113 = .ok (.getfield 120, 3) := by decide +kernel
theorem dX8_member_116 : decode cX8_member 116 = .ok (.aload_n 0, 1) := by decide +kernel
theorem dX8_member_117 : decode cX8_member 117 = .ok (.getfield 12, 3) := by decide +kernel
theorem dX8_member_120 : decode cX8_member 120 = .ok (.invokevirtual 145, 3) := by decide +kernel
theorem dX8_member_123 : decode cX8_member 123 = .ok (.invokevirtual 148, 3) := by decide +kernel
theorem dX8_member_126 : decode cX8_member 126 = .ok (.iload_n 1, 1) := by decide +kernel
theorem dX8_member_127 : decode cX8_member 127 = .ok (.invokestatic 151, 3) := by decide +kernel
theorem dX8_member_130 : decode cX8_member 130 = .ok (.ireturn, 1) := by decide +kernel
theorem dX8_member_131 : decode cX8_member 131 = .ok (.aload_n 0, 1) := by decide +kernel
theorem dX8_member_132 : decode cX8_member 132 = .ok (.getfield 12, 3) := by decide +kernel
theorem dX8_member_135 : decode cX8_member 135 = .ok (.getfield 154, 3) := by decide +kernel
theorem dX8_member_138 : decode cX8_member 138 = .ok (.iload_n 1, 1) := by decide +kernel
theorem dX8_member_139 : decode cX8_member 139 = .ok (.invokestatic 151, 3) := by decide +kernel
theorem dX8_member_142 : decode cX8_member 142 = .ok (.ireturn, 1) := by decide +kernel
theorem dX8_member_143 : decode cX8_member 143 = .ok (.aload_n 0, 1) := by decide +kernel
theorem dX8_member_144 : decode cX8_member 144 = .ok (.getfield 12, 3) := by decide +kernel
theorem dX8_member_147 : decode cX8_member 147 = .ok (.getfield 132, 3) := by decide +kernel
theorem dX8_member_150 : decode cX8_member 150 = .ok (.iload_n 1, 1) := by decide +kernel
theorem dX8_member_151 : decode cX8_member 151 = .ok (.invokevirtual 135, 3) := by decide +kernel
theorem dX8_member_154 : decode cX8_member 154 = .ok (.ifCond .eq 14, 3) := by decide +kernel
theorem dX8_member_157 : decode cX8_member 157 = .ok (.aload_n 0, 1) := by decide +kernel
theorem dX8_member_158 : decode cX8_member 158 = .ok (.getfield 12, 3) := by decide +kernel
theorem dX8_member_161 : decode cX8_member 161 = .ok (.iload_n 1, 1) := by decide +kernel
theorem dX8_member_162 : decode cX8_member 162 = .ok (.invokevirtual 157, 3) := by decide +kernel
theorem dX8_member_165 : decode cX8_member 165 = .ok (.goto 5, 3) := by decide +kernel
theorem dX8_member_168 : decode cX8_member 168 = .ok (.bipush (-4), 2) := by decide +kernel
theorem dX8_member_170 : decode cX8_member 170 = .ok (.ireturn, 1) := by decide +kernel
theorem dX8_member_171 : decode cX8_member 171 = .ok (.aload_n 0, 1) := by decide +kernel
theorem dX8_member_172 : decode cX8_member 172 = .ok (.getfield 12, 3) := by decide +kernel
theorem dX8_member_175 : decode cX8_member 175 = .ok (.getfield 72, 3) := by decide +kernel
theorem dX8_member_178 : decode cX8_member 178 = .ok (.iload_n 1, 1) := by decide +kernel
theorem dX8_member_179 : decode cX8_member 179 = .ok (.invokestatic 151, 3) := by decide +kernel
theorem dX8_member_182 : decode cX8_member 182 = .ok (.iconst 2, 1) := by decide +kernel
theorem dX8_member_183 : decode cX8_member 183 = .ok (.aload_n 0, 1) := by decide +kernel
theorem dX8_member_184 : decode cX8_member 184 = .ok (.getfield 12, 3) := by decide +kernel
theorem dX8_member_187 : decode cX8_member 187 = .ok (.getfield 88, 3) := by decide +kernel
theorem dX8_member_190 : decode cX8_member 190 = .ok (.iload_n 1, 1) := by decide +kernel
theorem dX8_member_191 : decode cX8_member 191 = .ok (.invokestatic 151, 3) := by decide +kernel
theorem dX8_member_194 : decode cX8_member 194 = .ok (.imul, 1) := by decide +kernel
theorem dX8_member_195 : decode cX8_member 195 = .ok (.iadd, 1) := by decide +kernel
theorem dX8_member_196 : decode cX8_member 196 = .ok (.ireturn, 1) := by decide +kernel
theorem dX8_member_197 : decode cX8_member 197 = .ok (.iconst (-1), 1) := by decide +kernel
theorem dX8_member_198 : decode cX8_member 198 = .ok (.ireturn, 1) := by decide +kernel
theorem dX8_node_0 : decode cX8_node 0 = .ok (.iload_n 1, 1) := by decide +kernel
theorem dX8_node_1 : decode cX8_node 1 = .ok (.iconst 1, 1) := by decide +kernel
theorem dX8_node_2 : decode cX8_node 2 = .ok (.if_icmp .lt 9, 3) := by decide +kernel
theorem dX8_node_5 : decode cX8_node 5 = .ok (.iload_n 1, 1) := by decide +kernel
theorem dX8_node_6 : decode cX8_node 6 = .ok (.bipush 32, 2) := by decide +kernel
theorem dX8_node_8 : decode cX8_node 8 = .ok (.if_icmp .lt 5, 3) := by decide +kernel
theorem dX8_node_11 : decode cX8_node 11 = .ok (.iconst (-1), 1) := by decide +kernel
theorem dX8_node_12 : decode cX8_node 12 = .ok (.ireturn, 1) := by decide +kernel
theorem dX8_node_13 : decode cX8_node 13 = .ok (.aload_n 0, 1) := by decide +kernel
theorem dX8_node_14 : decode cX8_node 14 = .ok (.getfield 12, 3) := by decide +kernel
theorem dX8_node_17 : decode cX8_node 17 = .ok (.getfield 120, 3) := by decide +kernel
theorem dX8_node_20 : decode cX8_node 20 = .ok (.getfield 160, 3) := by decide +kernel
theorem dX8_node_23 : decode cX8_node 23 = .ok (.iload_n 1, 1) := by decide +kernel
theorem dX8_node_24 : decode cX8_node 24 = .ok (.iaload, 1) := by decide +kernel
theorem dX8_node_25 : decode cX8_node 25 = .ok (.istore_n 3, 1) := by decide +kernel
theorem dX8_node_26 : decode cX8_node 26 = .ok (.iload_n 2, 1) := by decide +kernel
theorem dX8_node_27 : decode cX8_node 27 = .ok (.tableswitch 63 0 2 #[25, 27, 40], 25) := by decide +kernel
theorem dX8_node_52 : decode cX8_node 52 = .ok (.iload_n 3, 1) := by decide +kernel
theorem dX8_node_53 : decode cX8_node 53 = .ok (.ireturn, 1) := by decide +kernel
theorem dX8_node_54 : decode cX8_node 54 = .ok (.aload_n 0, 1) := by decide +kernel
theorem dX8_node_55 : decode cX8_node 55 = .ok (.getfield 12, 3) := by decide +kernel
theorem dX8_node_58 : decode cX8_node 58 = .ok (.getfield 132, 3) := by decide +kernel
theorem dX8_node_61 : decode cX8_node 61 = .ok (.getfield 163, 3) := by decide +kernel
theorem dX8_node_64 : decode cX8_node 64 = .ok (.iload_n 1, 1) := by decide +kernel
theorem dX8_node_65 : decode cX8_node 65 = .ok (.iaload, 1) := by decide +kernel
theorem dX8_node_66 : decode cX8_node 66 = .ok (.ireturn, 1) := by decide +kernel
theorem dX8_node_67 : decode cX8_node 67 = .ok (.iload_n 3, 1) := by decide +kernel
theorem dX8_node_68 : decode cX8_node 68 = .ok (.bipush (-4), 2) := by decide +kernel
theorem dX8_node_70 : decode cX8_node 70 = .ok (.if_icmp .ne 8, 3) := by decide +kernel
theorem dX8_node_73 : decode cX8_node 73 = .ok (.bipush (-4), 2) := by decide +kernel
theorem dX8_node_75 : decode cX8_node 75 = .ok (.goto 14, 3) := by decide +kernel
theorem dX8_node_78 : decode cX8_node 78 = .ok (.aload_n 0, 1) := by decide +kernel
theorem dX8_node_79 : decode cX8_node 79 = .ok (.getfield 12, 3) := by decide +kernel
theorem dX8_node_82 : decode cX8_node 82 = .ok (.getfield 120, 3) := by decide +kernel
theorem dX8_node_85 : decode cX8_node 85 = .ok (.iload_n 3, 1) := by decide +kernel
theorem dX8_node_86 : decode cX8_node 86 = .ok (.invokevirtual 148, 3) := by decide +kernel
theorem dX8_node_89 : decode cX8_node 89 = .ok (.ireturn, 1) := by decide +kernel
theorem dX8_node_90 : decode cX8_node 90 = .ok (.iconst (-1), 1) := by decide +kernel
theorem dX8_node_91 : decode cX8_node 91 = .ok (.ireturn, 1) := by decide +kernel
theorem dX8_key_0 : decode cX8_key 0 = .ok (.aload_n 0, 1) := by decide +kernel
theorem dX8_key_1 : decode cX8_key 1 = .ok (.getfield 12, 3) := by decide +kernel
theorem dX8_key_4 : decode cX8_key 4 = .ok (.getfield 120, 3) := by decide +kernel
theorem dX8_key_7 : decode cX8_key 7 = .ok (.iload_n 1, 1) := by decide +kernel
theorem dX8_key_8 : decode cX8_key 8 = .ok (.invokevirtual 166, 3) := by decide +kernel
theorem dX8_key_11 : decode cX8_key 11 = .ok (.ifCond .ne 5, 3) := by decide +kernel
theorem dX8_key_14 : decode cX8_key 14 = .ok (.iconst (-1), 1) := by decide +kernel
theorem dX8_key_15 : decode cX8_key 15 = .ok (.ireturn, 1) := by decide +kernel
theorem dX8_key_16 : decode cX8_key 16 = .ok (.aload_n 0, 1) := by decide +kernel
theorem dX8_key_17 : decode cX8_key 17 = .ok (.getfield 12, 3) := by decide +kernel
theorem dX8_key_20 : decode cX8_key 20 = .ok (.getfield 120, 3) := by decide +kernel
theorem dX8_key_23 : decode cX8_key 23 = .ok (.getfield 169, 3) := by decide +kernel
theorem dX8_key_26 : decode cX8_key 26 = .ok (.iload_n 1, 1) := by decide +kernel
theorem dX8_key_27 : decode cX8_key 27 = .ok (.iaload, 1) := by decide +kernel
theorem dX8_key_28 : decode cX8_key 28 = .ok (.istore_n 3, 1) := by decide +kernel
theorem dX8_key_29 : decode cX8_key 29 = .ok (.iload_n 2, 1) := by decide +kernel
theorem dX8_key_30 : decode cX8_key 30 = .ok (.tableswitch 80 0 3 #[30, 32, 45, 67], 30) := by decide +kernel
theorem dX8_key_60 : decode cX8_key 60 = .ok (.iload_n 3, 1) := by decide +kernel
theorem dX8_key_61 : decode cX8_key 61 = .ok (.ireturn, 1) := by decide +kernel
theorem dX8_key_62 : decode cX8_key 62 = .ok (.aload_n 0, 1) := by decide +kernel
theorem dX8_key_63 : decode cX8_key 63 = .ok (.getfield 12, 3) := by decide +kernel
theorem dX8_key_66 : decode cX8_key 66 = .ok (.getfield 120, 3) := by decide +kernel
theorem dX8_key_69 : decode cX8_key 69 = .ok (.getfield 172, 3) := by decide +kernel
theorem dX8_key_72 : decode cX8_key 72 = .ok (.iload_n 1, 1) := by decide +kernel
theorem dX8_key_73 : decode cX8_key 73 = .ok (.iaload, 1) := by decide +kernel
theorem dX8_key_74 : decode cX8_key 74 = .ok (.ireturn, 1) := by decide +kernel
theorem dX8_key_75 : decode cX8_key 75 = .ok (.aload_n 0, 1) := by decide +kernel
theorem dX8_key_76 : decode cX8_key 76 = .ok (.getfield 12, 3) := by decide +kernel
theorem dX8_key_79 : decode cX8_key 79 = .ok (.getfield 120, 3) := by decide +kernel
theorem dX8_key_82 : decode cX8_key 82 = .ok (.getfield 160, 3) := by decide +kernel
theorem dX8_key_85 : decode cX8_key 85 = .ok (.iload_n 3, 1) := by decide +kernel
theorem dX8_key_86 : decode cX8_key 86 = .ok (.iaload, 1) := by decide +kernel
theorem dX8_key_87 : decode cX8_key 87 = .ok (.iload_n 1, 1) := by decide +kernel
theorem dX8_key_88 : decode cX8_key 88 = .ok (.if_icmp .ne 7, 3) := by decide +kernel
theorem dX8_key_91 : decode cX8_key 91 = .ok (.iconst 1, 1) := by decide +kernel
theorem dX8_key_92 : decode cX8_key 92 = .ok (.goto 4, 3) := by decide +kernel
theorem dX8_key_95 : decode cX8_key 95 = .ok (.iconst 0, 1) := by decide +kernel
theorem dX8_key_96 : decode cX8_key 96 = .ok (.ireturn, 1) := by decide +kernel
theorem dX8_key_97 : decode cX8_key 97 = .ok (.aload_n 0, 1) := by decide +kernel
theorem dX8_key_98 : decode cX8_key 98 = .ok (.getfield 12, 3) := by decide +kernel
theorem dX8_key_101 : decode cX8_key 101 = .ok (.getfield 120, 3) := by decide +kernel
theorem dX8_key_104 : decode cX8_key 104 = .ok (.getfield 175, 3) := by decide +kernel
theorem dX8_key_107 : decode cX8_key 107 = .ok (.iload_n 1, 1) := by decide +kernel
theorem dX8_key_108 : decode cX8_key 108 = .ok (.iaload, 1) := by decide +kernel
theorem dX8_key_109 : decode cX8_key 109 = .ok (.ireturn, 1) := by decide +kernel
theorem dX8_key_110 : decode cX8_key 110 = .ok (.iconst (-1), 1) := by decide +kernel
theorem dX8_key_111 : decode cX8_key 111 = .ok (.ireturn, 1) := by decide +kernel
theorem dX8_letter_0 : decode cX8_letter 0 = .ok (.aload_n 0, 1) := by decide +kernel
theorem dX8_letter_1 : decode cX8_letter 1 = .ok (.getfield 12, 3) := by decide +kernel
theorem dX8_letter_4 : decode cX8_letter 4 = .ok (.getfield 178, 3) := by decide +kernel
theorem dX8_letter_7 : decode cX8_letter 7 = .ok (.iload_n 1, 1) := by decide +kernel
theorem dX8_letter_8 : decode cX8_letter 8 = .ok (.invokevirtual 182, 3) := by decide +kernel
theorem dX8_letter_11 : decode cX8_letter 11 = .ok (.ifCond .ne 5, 3) := by decide +kernel
theorem dX8_letter_14 : decode cX8_letter 14 = .ok (.iconst (-1), 1) := by decide +kernel
theorem dX8_letter_15 : decode cX8_letter 15 = .ok (.ireturn, 1) := by decide +kernel
theorem dX8_letter_16 : decode cX8_letter 16 = .ok (.iload_n 2, 1) := by decide +kernel
theorem dX8_letter_17 : decode cX8_letter 17 = .ok (.tableswitch 66 0 2 #[27, 40, 53], 27) := by decide +kernel
theorem dX8_letter_44 : decode cX8_letter 44 = .ok (.aload_n 0, 1) := by decide +kernel
theorem dX8_letter_45 : decode cX8_letter 45 = .ok (.getfield 12, 3) := by decide +kernel
theorem dX8_letter_48 : decode cX8_letter 48 = .ok (.getfield 178, 3) := by decide +kernel
theorem dX8_letter_51 : decode cX8_letter 51 = .ok (.getfield 185, 3) := by decide +kernel
theorem dX8_letter_54 : decode cX8_letter 54 = .ok (.iload_n 1, 1) := by decide +kernel
theorem dX8_letter_55 : decode cX8_letter 55 = .ok (.iaload, 1) := by decide +kernel
theorem dX8_letter_56 : decode cX8_letter 56 = .ok (.ireturn, 1) := by decide +kernel
theorem dX8_letter_57 : decode cX8_letter 57 = .ok (.aload_n 0, 1) := by decide +kernel
theorem dX8_letter_58 : decode cX8_letter 58 = .ok (.getfield 12, 3) := by decide +kernel
theorem dX8_letter_61 : decode cX8_letter 61 = .ok (.getfield 178, 3) := by decide +kernel
theorem dX8_letter_64 : decode cX8_letter 64 = .ok (.getfield 188, 3) := by decide +kernel
theorem dX8_letter_67 : decode cX8_letter 67 = .ok (.iload_n 1, 1) := by decide +kernel
theorem dX8_letter_68 : decode cX8_letter 68 = .ok (.iaload, 1) := by decide +kernel
theorem dX8_letter_69 : decode cX8_letter 69 = .ok (.ireturn, 1) := by decide +kernel
theorem dX8_letter_70 : decode cX8_letter 70 = .ok (.aload_n 0, 1) := by decide +kernel
theorem dX8_letter_71 : decode cX8_letter 71 = .ok (.getfield 12, 3) := by decide +kernel
theorem dX8_letter_74 : decode cX8_letter 74 = .ok (.getfield 178, 3) := by decide +kernel
theorem dX8_letter_77 : decode cX8_letter 77 = .ok (.getfield 191, 3) := by decide +kernel
theorem dX8_letter_80 : decode cX8_letter 80 = .ok (.iload_n 1, 1) := by decide +kernel
theorem dX8_letter_81 : decode cX8_letter 81 = .ok (.iaload, 1) := by decide +kernel
theorem dX8_letter_82 : decode cX8_letter 82 = .ok (.ireturn, 1) := by decide +kernel
theorem dX8_letter_83 : decode cX8_letter 83 = .ok (.iconst (-1), 1) := by decide +kernel
theorem dX8_letter_84 : decode cX8_letter 84 = .ok (.ireturn, 1) := by decide +kernel
theorem dX8_count_0 : decode cX8_count 0 = .ok (.iload_n 1, 1) := by decide +kernel
theorem dX8_count_1 : decode cX8_count 1 = .ok (.tableswitch 155 0 8 #[51, 62, 70, 78, 86, 97, 108, 116, 147], 51) := by decide +kernel
theorem dX8_count_52 : decode cX8_count 52 = .ok (.aload_n 0, 1) := by decide +kernel
theorem dX8_count_53 : decode cX8_count 53 = .ok (.getfield 12, 3) := by decide +kernel
theorem dX8_count_56 : decode cX8_count 56 = .ok (.getfield 132, 3) := by decide +kernel
theorem dX8_count_59 : decode cX8_count 59 = .ok (.invokevirtual 192, 3) := by decide +kernel
theorem dX8_count_62 : decode cX8_count 62 = .ok (.ireturn, 1) := by decide +kernel
theorem dX8_count_63 : decode cX8_count 63 = .ok (.aload_n 0, 1) := by decide +kernel
theorem dX8_count_64 : decode cX8_count 64 = .ok (.getfield 12, 3) := by decide +kernel
theorem dX8_count_67 : decode cX8_count 67 = .ok (.getfield 72, 3) := by decide +kernel
theorem dX8_count_70 : decode cX8_count 70 = .ok (.ireturn, 1) := by decide +kernel
theorem dX8_count_71 : decode cX8_count 71 = .ok (.aload_n 0, 1) := by decide +kernel
theorem dX8_count_72 : decode cX8_count 72 = .ok (.getfield 12, 3) := by decide +kernel
theorem dX8_count_75 : decode cX8_count 75 = .ok (.getfield 88, 3) := by decide +kernel
theorem dX8_count_78 : decode cX8_count 78 = .ok (.ireturn, 1) := by decide +kernel
theorem dX8_count_79 : decode cX8_count 79 = .ok (.aload_n 0, 1) := by decide +kernel
theorem dX8_count_80 : decode cX8_count 80 = .ok (.getfield 12, 3) := by decide +kernel
theorem dX8_count_83 : decode cX8_count 83 = .ok (.getfield 154, 3) := by decide +kernel
theorem dX8_count_86 : decode cX8_count 86 = .ok (.ireturn, 1) := by decide +kernel
theorem dX8_count_87 : decode cX8_count 87 = .ok (.aload_n 0, 1) := by decide +kernel
theorem dX8_count_88 : decode cX8_count 88 = .ok (.getfield 12, 3) := by decide +kernel
theorem dX8_count_91 : decode cX8_count 91 = .ok (.getfield 120, 3) := by decide +kernel
theorem dX8_count_94 : decode cX8_count 94 = .ok (.getfield 124, 3) := by decide +kernel
theorem dX8_count_97 : decode cX8_count 97 = .ok (.ireturn, 1) := by decide +kernel
theorem dX8_count_98 : decode cX8_count 98 = .ok (.aload_n 0, 1) := by decide +kernel
theorem dX8_count_99 : decode cX8_count 99 = .ok (.getfield 12, 3) := by decide +kernel
theorem dX8_count_102 : decode cX8_count 102 = .ok (.getfield 178, 3) := by decide +kernel
theorem dX8_count_105 : decode cX8_count 105 = .ok (.getfield 195, 3) := by decide +kernel
theorem dX8_count_108 : decode cX8_count 108 = .ok (.ireturn, 1) := by decide +kernel
theorem dX8_count_109 : decode cX8_count 109 = .ok (.aload_n 0, 1) := by decide +kernel
theorem dX8_count_110 : decode cX8_count 110 = .ok (.getfield 12, 3) := by decide +kernel
theorem dX8_count_113 : decode cX8_count 113 = .ok (.getfield 198, 3) := by decide +kernel
theorem dX8_count_116 : decode cX8_count 116 = .ok (.ireturn, 1) := by decide +kernel
theorem dX8_count_117 : decode cX8_count 117 = .ok (.aload_n 0, 1) := by decide +kernel
theorem dX8_count_118 : decode cX8_count 118 = .ok (.getfield 12, 3) := by decide +kernel
theorem dX8_count_121 : decode cX8_count 121 = .ok (.getfield 132, 3) := by decide +kernel
theorem dX8_count_124 : decode cX8_count 124 = .ok (.invokevirtual 192, 3) := by decide +kernel
theorem dX8_count_127 : decode cX8_count 127 = .ok (.aload_n 0, 1) := by decide +kernel
theorem dX8_count_128 : decode cX8_count 128 = .ok (.getfield 12, 3) := by decide +kernel
theorem dX8_count_131 : decode cX8_count 131 = .ok (.getfield 120, 3) := by decide +kernel
theorem dX8_count_134 : decode cX8_count 134 = .ok (.aload_n 0, 1) := by decide +kernel
theorem dX8_count_135 : decode cX8_count 135 = .ok (.getfield 12, 3) := by decide +kernel
theorem dX8_count_138 : decode cX8_count 138 = .ok (.invokevirtual 145, 3) := by decide +kernel
theorem dX8_count_141 : decode cX8_count 141 = .ok (.invokevirtual 148, 3) := by decide +kernel
theorem dX8_count_144 : decode cX8_count 144 = .ok (.iconst (-1), 1) := by decide +kernel
theorem dX8_count_145 : decode cX8_count 145 = .ok (.ixor, 1) := by decide +kernel
theorem dX8_count_146 : decode cX8_count 146 = .ok (.iand, 1) := by decide +kernel
theorem dX8_count_147 : decode cX8_count 147 = .ok (.ireturn, 1) := by decide +kernel
theorem dX8_count_148 : decode cX8_count 148 = .ok (.aload_n 0, 1) := by decide +kernel
theorem dX8_count_149 : decode cX8_count 149 = .ok (.getfield 19, 3) := by decide +kernel
theorem dX8_count_152 : decode cX8_count 152 = .ok (.getfield 200, 3) := by decide +kernel
theorem dX8_count_155 : decode cX8_count 155 = .ok (.ireturn, 1) := by decide +kernel
theorem dX8_count_156 : decode cX8_count 156 = .ok (.iconst (-1), 1) := by decide +kernel
theorem dX8_count_157 : decode cX8_count 157 = .ok (.ireturn, 1) := by decide +kernel
theorem dX8_why_0 : decode cX8_why 0 = .ok (.iload_n 1, 1) := by decide +kernel
theorem dX8_why_1 : decode cX8_why 1 = .ok (.invokestatic 57, 3) := by decide +kernel
theorem dX8_why_4 : decode cX8_why 4 = .ok (.ifCond .ne 17, 3) := by decide +kernel
theorem dX8_why_7 : decode cX8_why 7 = .ok (.aload_n 0, 1) := by decide +kernel
theorem dX8_why_8 : decode cX8_why 8 = .ok (.getfield 12, 3) := by decide +kernel
theorem dX8_why_11 : decode cX8_why 11 = .ok (.getfield 178, 3) := by decide +kernel
theorem dX8_why_14 : decode cX8_why 14 = .ok (.iload_n 2, 1) := by decide +kernel
theorem dX8_why_15 : decode cX8_why 15 = .ok (.invokevirtual 182, 3) := by decide +kernel
theorem dX8_why_18 : decode cX8_why 18 = .ok (.ifCond .ne 5, 3) := by decide +kernel
theorem dX8_why_21 : decode cX8_why 21 = .ok (.iconst (-1), 1) := by decide +kernel
theorem dX8_why_22 : decode cX8_why 22 = .ok (.ireturn, 1) := by decide +kernel
theorem dX8_why_23 : decode cX8_why 23 = .ok (.aload_n 0, 1) := by decide +kernel
theorem dX8_why_24 : decode cX8_why 24 = .ok (.getfield 12, 3) := by decide +kernel
theorem dX8_why_27 : decode cX8_why 27 = .ok (.iload_n 1, 1) := by decide +kernel
theorem dX8_why_28 : decode cX8_why 28 = .ok (.aload_n 0, 1) := by decide +kernel
theorem dX8_why_29 : decode cX8_why 29 = .ok (.getfield 12, 3) := by decide +kernel
theorem dX8_why_32 : decode cX8_why 32 = .ok (.getfield 178, 3) := by decide +kernel
theorem dX8_why_35 : decode cX8_why 35 = .ok (.getfield 188, 3) := by decide +kernel
theorem dX8_why_38 : decode cX8_why 38 = .ok (.iload_n 2, 1) := by decide +kernel
theorem dX8_why_39 : decode cX8_why 39 = .ok (.iaload, 1) := by decide +kernel
theorem dX8_why_40 : decode cX8_why 40 = .ok (.invokevirtual 202, 3) := by decide +kernel
theorem dX8_why_43 : decode cX8_why 43 = .ok (.ireturn, 1) := by decide +kernel
theorem dX8_opens_0 : decode cX8_opens 0 = .ok (.iload_n 1, 1) := by decide +kernel
theorem dX8_opens_1 : decode cX8_opens 1 = .ok (.ifCond .lt 23, 3) := by decide +kernel
theorem dX8_opens_4 : decode cX8_opens 4 = .ok (.iload_n 1, 1) := by decide +kernel
theorem dX8_opens_5 : decode cX8_opens 5 = .ok (.ldc 205, 2) := by decide +kernel
theorem dX8_opens_7 : decode cX8_opens 7 = .ok (.if_icmp .ge 17, 3) := by decide +kernel
theorem dX8_opens_10 : decode cX8_opens 10 = .ok (.aload_n 0, 1) := by decide +kernel
theorem dX8_opens_11 : decode cX8_opens 11 = .ok (.getfield 12, 3) := by decide +kernel
theorem dX8_opens_14 : decode cX8_opens 14 = .ok (.getfield 120, 3) := by decide +kernel
theorem dX8_opens_17 : decode cX8_opens 17 = .ok (.iload_n 2, 1) := by decide +kernel
theorem dX8_opens_18 : decode cX8_opens 18 = .ok (.invokevirtual 166, 3) := by decide +kernel
theorem dX8_opens_21 : decode cX8_opens 21 = .ok (.ifCond .ne 5, 3) := by decide +kernel
theorem dX8_opens_24 : decode cX8_opens 24 = .ok (.iconst (-1), 1) := by decide +kernel
theorem dX8_opens_25 : decode cX8_opens 25 = .ok (.ireturn, 1) := by decide +kernel
theorem dX8_opens_26 : decode cX8_opens 26 = .ok (.aload_n 0, 1) := by decide +kernel
theorem dX8_opens_27 : decode cX8_opens 27 = .ok (.getfield 52, 3) := by decide +kernel
theorem dX8_opens_30 : decode cX8_opens 30 = .ok (.aload_n 0, 1) := by decide +kernel
theorem dX8_opens_31 : decode cX8_opens 31 = .ok (.getfield 12, 3) := by decide +kernel
theorem dX8_opens_34 : decode cX8_opens 34 = .ok (.getfield 120, 3) := by decide +kernel
theorem dX8_opens_37 : decode cX8_opens 37 = .ok (.iload_n 1, 1) := by decide +kernel
theorem dX8_opens_38 : decode cX8_opens 38 = .ok (.invokevirtual 206, 3) := by decide +kernel
theorem dX8_opens_41 : decode cX8_opens 41 = .ok (.aload_n 0, 1) := by decide +kernel
theorem dX8_opens_42 : decode cX8_opens 42 = .ok (.getfield 52, 3) := by decide +kernel
theorem dX8_opens_45 : decode cX8_opens 45 = .ok (.aload_n 0, 1) := by decide +kernel
theorem dX8_opens_46 : decode cX8_opens 46 = .ok (.getfield 12, 3) := by decide +kernel
theorem dX8_opens_49 : decode cX8_opens 49 = .ok (.getfield 178, 3) := by decide +kernel
theorem dX8_opens_52 : decode cX8_opens 52 = .ok (.invokevirtual 210, 3) := by decide +kernel
theorem dX8_opens_55 : decode cX8_opens 55 = .ok (.aload_n 0, 1) := by decide +kernel
theorem dX8_opens_56 : decode cX8_opens 56 = .ok (.getfield 52, 3) := by decide +kernel
theorem dX8_opens_59 : decode cX8_opens 59 = .ok (.iload_n 2, 1) := by decide +kernel
theorem dX8_opens_60 : decode cX8_opens 60 = .ok (.invokevirtual 214, 3) := by decide +kernel
theorem dX8_opens_63 : decode cX8_opens 63 = .ok (.ifCond .eq 7, 3) := by decide +kernel
theorem dX8_opens_66 : decode cX8_opens 66 = .ok (.iconst 1, 1) := by decide +kernel
theorem dX8_opens_67 : decode cX8_opens 67 = .ok (.goto 4, 3) := by decide +kernel
theorem dX8_opens_70 : decode cX8_opens 70 = .ok (.iconst 0, 1) := by decide +kernel
theorem dX8_opens_71 : decode cX8_opens 71 = .ok (.ireturn, 1) := by decide +kernel
theorem dX8_due_0 : decode cX8_due 0 = .ok (.iload_n 1, 1) := by decide +kernel
theorem dX8_due_1 : decode cX8_due 1 = .ok (.ifCond .lt 8, 3) := by decide +kernel
theorem dX8_due_4 : decode cX8_due 4 = .ok (.iload_n 1, 1) := by decide +kernel
theorem dX8_due_5 : decode cX8_due 5 = .ok (.iconst 1, 1) := by decide +kernel
theorem dX8_due_6 : decode cX8_due 6 = .ok (.if_icmp .le 5, 3) := by decide +kernel
theorem dX8_due_9 : decode cX8_due 9 = .ok (.iconst (-1), 1) := by decide +kernel
theorem dX8_due_10 : decode cX8_due 10 = .ok (.ireturn, 1) := by decide +kernel
theorem dX8_due_11 : decode cX8_due 11 = .ok (.aload_n 0, 1) := by decide +kernel
theorem dX8_due_12 : decode cX8_due 12 = .ok (.getfield 45, 3) := by decide +kernel
theorem dX8_due_15 : decode cX8_due 15 = .ok (.aload_n 0, 1) := by decide +kernel
theorem dX8_due_16 : decode cX8_due 16 = .ok (.getfield 12, 3) := by decide +kernel
theorem dX8_due_19 : decode cX8_due 19 = .ok (.getfield 132, 3) := by decide +kernel
theorem dX8_due_22 : decode cX8_due 22 = .ok (.invokevirtual 217, 3) := by decide +kernel
theorem dX8_due_25 : decode cX8_due 25 = .ok (.iload_n 1, 1) := by decide +kernel
theorem dX8_due_26 : decode cX8_due 26 = .ok (.ifCond .ne 32, 3) := by decide +kernel
theorem dX8_due_29 : decode cX8_due 29 = .ok (.aload_n 0, 1) := by decide +kernel
theorem dX8_due_30 : decode cX8_due 30 = .ok (.getfield 45, 3) := by decide +kernel
theorem dX8_due_33 : decode cX8_due 33 = .ok (.aload_n 0, 1) := by decide +kernel
theorem dX8_due_34 : decode cX8_due 34 = .ok (.getfield 45, 3) := by decide +kernel
theorem dX8_due_37 : decode cX8_due 37 = .ok (.aload_n 0, 1) := by decide +kernel
theorem dX8_due_38 : decode cX8_due 38 = .ok (.getfield 12, 3) := by decide +kernel
theorem dX8_due_41 : decode cX8_due 41 = .ok (.getfield 88, 3) := by decide +kernel
theorem dX8_due_44 : decode cX8_due 44 = .ok (.aload_n 0, 1) := by decide +kernel
theorem dX8_due_45 : decode cX8_due 45 = .ok (.getfield 12, 3) := by decide +kernel
theorem dX8_due_48 : decode cX8_due 48 = .ok (.getfield 72, 3) := by decide +kernel
theorem dX8_due_51 : decode cX8_due 51 = .ok (.invokevirtual 220, 3) := by decide +kernel
theorem dX8_due_54 : decode cX8_due 54 = .ok (.invokevirtual 223, 3) := by decide +kernel
theorem dX8_due_57 : decode cX8_due 57 = .ok (.ireturn, 1) := by decide +kernel
theorem dX8_due_58 : decode cX8_due 58 = .ok (.aload_n 0, 1) := by decide +kernel
theorem dX8_due_59 : decode cX8_due 59 = .ok (.invokevirtual 226, 3) := by decide +kernel
theorem dX8_due_62 : decode cX8_due 62 = .ok (.ireturn, 1) := by decide +kernel
theorem dX8_luck_0 : decode cX8_luck 0 = .ok (.iload_n 1, 1) := by decide +kernel
theorem dX8_luck_1 : decode cX8_luck 1 = .ok (.invokestatic 57, 3) := by decide +kernel
theorem dX8_luck_4 : decode cX8_luck 4 = .ok (.ifCond .ne 22, 3) := by decide +kernel
theorem dX8_luck_7 : decode cX8_luck 7 = .ok (.iload_n 2, 1) := by decide +kernel
theorem dX8_luck_8 : decode cX8_luck 8 = .ok (.ifCond .lt 18, 3) := by decide +kernel
theorem dX8_luck_11 : decode cX8_luck 11 = .ok (.iload_n 2, 1) := by decide +kernel
theorem dX8_luck_12 : decode cX8_luck 12 = .ok (.bipush 10, 2) := by decide +kernel
theorem dX8_luck_14 : decode cX8_luck 14 = .ok (.if_icmp .gt 12, 3) := by decide +kernel
theorem dX8_luck_17 : decode cX8_luck 17 = .ok (.iload_n 3, 1) := by decide +kernel
theorem dX8_luck_18 : decode cX8_luck 18 = .ok (.ifCond .lt 8, 3) := by decide +kernel
theorem dX8_luck_21 : decode cX8_luck 21 = .ok (.iload_n 3, 1) := by decide +kernel
theorem dX8_luck_22 : decode cX8_luck 22 = .ok (.iconst 1, 1) := by decide +kernel
theorem dX8_luck_23 : decode cX8_luck 23 = .ok (.if_icmp .le 5, 3) := by decide +kernel
theorem dX8_luck_26 : decode cX8_luck 26 = .ok (.iconst (-1), 1) := by decide +kernel
theorem dX8_luck_27 : decode cX8_luck 27 = .ok (.ireturn, 1) := by decide +kernel
theorem dX8_luck_28 : decode cX8_luck 28 = .ok (.aload_n 0, 1) := by decide +kernel
theorem dX8_luck_29 : decode cX8_luck 29 = .ok (.getfield 12, 3) := by decide +kernel
theorem dX8_luck_32 : decode cX8_luck 32 = .ok (.getfield 132, 3) := by decide +kernel
theorem dX8_luck_35 : decode cX8_luck 35 = .ok (.iload_n 1, 1) := by decide +kernel
theorem dX8_luck_36 : decode cX8_luck 36 = .ok (.invokevirtual 135, 3) := by decide +kernel
theorem dX8_luck_39 : decode cX8_luck 39 = .ok (.ifCond .ne 6, 3) := by decide +kernel
theorem dX8_luck_42 : decode cX8_luck 42 = .ok (.bipush (-2), 2) := by decide +kernel
theorem dX8_luck_44 : decode cX8_luck 44 = .ok (.ireturn, 1) := by decide +kernel
theorem dX8_luck_45 : decode cX8_luck 45 = .ok (.iload_n 3, 1) := by decide +kernel
theorem dX8_luck_46 : decode cX8_luck 46 = .ok (.ifCond .ne 10, 3) := by decide +kernel
theorem dX8_luck_49 : decode cX8_luck 49 = .ok (.bipush 10, 2) := by decide +kernel
theorem dX8_luck_51 : decode cX8_luck 51 = .ok (.iload_n 2, 1) := by decide +kernel
theorem dX8_luck_52 : decode cX8_luck 52 = .ok (.isub, 1) := by decide +kernel
theorem dX8_luck_53 : decode cX8_luck 53 = .ok (.goto 5, 3) := by decide +kernel
theorem dX8_luck_56 : decode cX8_luck 56 = .ok (.bipush 10, 2) := by decide +kernel
theorem dX8_luck_58 : decode cX8_luck 58 = .ok (.istore 4, 2) := by decide +kernel
theorem dX8_luck_60 : decode cX8_luck 60 = .ok (.iload 4, 2) := by decide +kernel
theorem dX8_luck_62 : decode cX8_luck 62 = .ok (.bipush 10, 2) := by decide +kernel
theorem dX8_luck_64 : decode cX8_luck 64 = .ok (.iload_n 2, 1) := by decide +kernel
theorem dX8_luck_65 : decode cX8_luck 65 = .ok (.isub, 1) := by decide +kernel
theorem dX8_luck_66 : decode cX8_luck 66 = .ok (.invokestatic 229, 3) := by decide +kernel
theorem dX8_luck_69 : decode cX8_luck 69 = .ok (.idiv, 1) := by decide +kernel
theorem dX8_luck_70 : decode cX8_luck 70 = .ok (.istore 5, 2) := by decide +kernel
theorem dX8_luck_72 : decode cX8_luck 72 = .ok (.iconst 1, 1) := by decide +kernel
theorem dX8_luck_73 : decode cX8_luck 73 = .ok (.istore 6, 2) := by decide +kernel
theorem dX8_luck_75 : decode cX8_luck 75 = .ok (.aload_n 0, 1) := by decide +kernel
theorem dX8_luck_76 : decode cX8_luck 76 = .ok (.getfield 12, 3) := by decide +kernel
theorem dX8_luck_79 : decode cX8_luck 79 = .ok (.iload_n 1, 1) := by decide +kernel
theorem dX8_luck_80 : decode cX8_luck 80 = .ok (.invokevirtual 232, 3) := by decide +kernel
theorem dX8_luck_83 : decode cX8_luck 83 = .ok (.istore 7, 2) := by decide +kernel
theorem dX8_luck_85 : decode cX8_luck 85 = .ok (.iload 7, 2) := by decide +kernel
theorem dX8_luck_87 : decode cX8_luck 87 = .ok (.ifCond .le 16, 3) := by decide +kernel
theorem dX8_luck_90 : decode cX8_luck 90 = .ok (.iload 6, 2) := by decide +kernel
theorem dX8_luck_92 : decode cX8_luck 92 = .ok (.iload 5, 2) := by decide +kernel
theorem dX8_luck_94 : decode cX8_luck 94 = .ok (.imul, 1) := by decide +kernel
theorem dX8_luck_95 : decode cX8_luck 95 = .ok (.istore 6, 2) := by decide +kernel
theorem dX8_luck_97 : decode cX8_luck 97 = .ok (.iinc 7 (-1), 3) := by decide +kernel
theorem dX8_luck_100 : decode cX8_luck 100 = .ok (.goto (-15), 3) := by decide +kernel
theorem dX8_luck_103 : decode cX8_luck 103 = .ok (.iload 6, 2) := by decide +kernel
theorem dX8_luck_105 : decode cX8_luck 105 = .ok (.ireturn, 1) := by decide +kernel
theorem dX8_drift_0 : decode cX8_drift 0 = .ok (.iload_n 1, 1) := by decide +kernel
theorem dX8_drift_1 : decode cX8_drift 1 = .ok (.iconst 1, 1) := by decide +kernel
theorem dX8_drift_2 : decode cX8_drift 2 = .ok (.if_icmp .lt 9, 3) := by decide +kernel
theorem dX8_drift_5 : decode cX8_drift 5 = .ok (.iload_n 1, 1) := by decide +kernel
theorem dX8_drift_6 : decode cX8_drift 6 = .ok (.bipush 40, 2) := by decide +kernel
theorem dX8_drift_8 : decode cX8_drift 8 = .ok (.if_icmp .le 5, 3) := by decide +kernel
theorem dX8_drift_11 : decode cX8_drift 11 = .ok (.iconst (-1), 1) := by decide +kernel
theorem dX8_drift_12 : decode cX8_drift 12 = .ok (.ireturn, 1) := by decide +kernel
theorem dX8_drift_13 : decode cX8_drift 13 = .ok (.iconst 0, 1) := by decide +kernel
theorem dX8_drift_14 : decode cX8_drift 14 = .ok (.istore_n 2, 1) := by decide +kernel
theorem dX8_drift_15 : decode cX8_drift 15 = .ok (.iload_n 2, 1) := by decide +kernel
theorem dX8_drift_16 : decode cX8_drift 16 = .ok (.iload_n 1, 1) := by decide +kernel
theorem dX8_drift_17 : decode cX8_drift 17 = .ok (.if_icmp .ge 24, 3) := by decide +kernel
theorem dX8_drift_20 : decode cX8_drift 20 = .ok (.aload_n 0, 1) := by decide +kernel
theorem dX8_drift_21 : decode cX8_drift 21 = .ok (.getfield 19, 3) := by decide +kernel
theorem dX8_drift_24 : decode cX8_drift 24 = .ok (.aload_n 0, 1) := by decide +kernel
theorem dX8_drift_25 : decode cX8_drift 25 = .ok (.getfield 12, 3) := by decide +kernel
theorem dX8_drift_28 : decode cX8_drift 28 = .ok (.invokevirtual 64, 3) := by decide +kernel
theorem dX8_drift_31 : decode cX8_drift 31 = .ok (.aload_n 0, 1) := by decide +kernel
theorem dX8_drift_32 : decode cX8_drift 32 = .ok (.invokevirtual 248, 3) := by decide +kernel
theorem dX8_drift_35 : decode cX8_drift 35 = .ok (.iinc 2 1, 3) := by decide +kernel
theorem dX8_drift_38 : decode cX8_drift 38 = .ok (.goto (-23), 3) := by decide +kernel
theorem dX8_drift_41 : decode cX8_drift 41 = .ok (.aload_n 0, 1) := by decide +kernel
theorem dX8_drift_42 : decode cX8_drift 42 = .ok (.getfield 12, 3) := by decide +kernel
theorem dX8_drift_45 : decode cX8_drift 45 = .ok (.getfield 132, 3) := by decide +kernel
theorem dX8_drift_48 : decode cX8_drift 48 = .ok (.invokevirtual 192, 3) := by decide +kernel
theorem dX8_drift_51 : decode cX8_drift 51 = .ok (.ireturn, 1) := by decide +kernel
theorem dX8_undo_0 : decode cX8_undo 0 = .ok (.aload_n 0, 1) := by decide +kernel
theorem dX8_undo_1 : decode cX8_undo 1 = .ok (.getfield 19, 3) := by decide +kernel
theorem dX8_undo_4 : decode cX8_undo 4 = .ok (.getfield 200, 3) := by decide +kernel
theorem dX8_undo_7 : decode cX8_undo 7 = .ok (.ifCond .ne 6, 3) := by decide +kernel
theorem dX8_undo_10 : decode cX8_undo 10 = .ok (.bipush (-4), 2) := by decide +kernel
theorem dX8_undo_12 : decode cX8_undo 12 = .ok (.ireturn, 1) := by decide +kernel
theorem dX8_undo_13 : decode cX8_undo 13 = .ok (.aload_n 0, 1) := by decide +kernel
theorem dX8_undo_14 : decode cX8_undo 14 = .ok (.getfield 19, 3) := by decide +kernel
theorem dX8_undo_17 : decode cX8_undo 17 = .ok (.aload_n 0, 1) := by decide +kernel
theorem dX8_undo_18 : decode cX8_undo 18 = .ok (.getfield 12, 3) := by decide +kernel
theorem dX8_undo_21 : decode cX8_undo 21 = .ok (.invokevirtual 251, 3) := by decide +kernel
theorem dX8_undo_24 : decode cX8_undo 24 = .ok (.aload_n 0, 1) := by decide +kernel
theorem dX8_undo_25 : decode cX8_undo 25 = .ok (.getfield 19, 3) := by decide +kernel
theorem dX8_undo_28 : decode cX8_undo 28 = .ok (.getfield 200, 3) := by decide +kernel
theorem dX8_undo_31 : decode cX8_undo 31 = .ok (.ireturn, 1) := by decide +kernel
theorem dX8_seed_0 : decode cX8_seed 0 = .ok (.iload_n 1, 1) := by decide +kernel
theorem dX8_seed_1 : decode cX8_seed 1 = .ok (.ifCond .ge 5, 3) := by decide +kernel
theorem dX8_seed_4 : decode cX8_seed 4 = .ok (.iconst (-1), 1) := by decide +kernel
theorem dX8_seed_5 : decode cX8_seed 5 = .ok (.ireturn, 1) := by decide +kernel
theorem dX8_seed_6 : decode cX8_seed 6 = .ok (.aload_n 0, 1) := by decide +kernel
theorem dX8_seed_7 : decode cX8_seed 7 = .ok (.getfield 12, 3) := by decide +kernel
theorem dX8_seed_10 : decode cX8_seed 10 = .ok (.getfield 254, 3) := by decide +kernel
theorem dX8_seed_13 : decode cX8_seed 13 = .ok (.istore_n 2, 1) := by decide +kernel
theorem dX8_seed_14 : decode cX8_seed 14 = .ok (.aload_n 0, 1) := by decide +kernel
theorem dX8_seed_15 : decode cX8_seed 15 = .ok (.getfield 12, 3) := by decide +kernel
theorem dX8_seed_18 : decode cX8_seed 18 = .ok (.iload_n 1, 1) := by decide +kernel
theorem dX8_seed_19 : decode cX8_seed 19 = .ok (.putfield 254, 3) := by decide +kernel
theorem dX8_seed_22 : decode cX8_seed 22 = .ok (.iload_n 2, 1) := by decide +kernel
theorem dX8_seed_23 : decode cX8_seed 23 = .ok (.ireturn, 1) := by decide +kernel
theorem dX8_image_0 : decode cX8_image 0 = .ok (.aload_n 0, 1) := by decide +kernel
theorem dX8_image_1 : decode cX8_image 1 = .ok (.getfield 23, 3) := by decide +kernel
theorem dX8_image_4 : decode cX8_image 4 = .ok (.aload_n 0, 1) := by decide +kernel
theorem dX8_image_5 : decode cX8_image 5 = .ok (.getfield 12, 3) := by decide +kernel
theorem dX8_image_8 : decode cX8_image 8 = .ok (.invokevirtual 257, 3) := by decide +kernel
theorem dX8_image_11 : decode cX8_image 11 = .ok (.aload_n 0, 1) := by decide +kernel
theorem dX8_image_12 : decode cX8_image 12 = .ok (.getfield 26, 3) := by decide +kernel
theorem dX8_image_15 : decode cX8_image 15 = .ok (.aload_n 0, 1) := by decide +kernel
theorem dX8_image_16 : decode cX8_image 16 = .ok (.getfield 19, 3) := by decide +kernel
theorem dX8_image_19 : decode cX8_image 19 = .ok (.invokevirtual 259, 3) := by decide +kernel
theorem dX8_image_22 : decode cX8_image 22 = .ok (.aload_n 0, 1) := by decide +kernel
theorem dX8_image_23 : decode cX8_image 23 = .ok (.iconst 1, 1) := by decide +kernel
theorem dX8_image_24 : decode cX8_image 24 = .ok (.putfield 262, 3) := by decide +kernel
theorem dX8_image_27 : decode cX8_image 27 = .ok (.iconst 1, 1) := by decide +kernel
theorem dX8_image_28 : decode cX8_image 28 = .ok (.ireturn, 1) := by decide +kernel
theorem dX8_restore_0 : decode cX8_restore 0 = .ok (.aload_n 0, 1) := by decide +kernel
theorem dX8_restore_1 : decode cX8_restore 1 = .ok (.getfield 262, 3) := by decide +kernel
theorem dX8_restore_4 : decode cX8_restore 4 = .ok (.ifCond .ne 6, 3) := by decide +kernel
theorem dX8_restore_7 : decode cX8_restore 7 = .ok (.bipush (-4), 2) := by decide +kernel
theorem dX8_restore_9 : decode cX8_restore 9 = .ok (.ireturn, 1) := by decide +kernel
theorem dX8_restore_10 : decode cX8_restore 10 = .ok (.aload_n 0, 1) := by decide +kernel
theorem dX8_restore_11 : decode cX8_restore 11 = .ok (.getfield 12, 3) := by decide +kernel
theorem dX8_restore_14 : decode cX8_restore 14 = .ok (.aload_n 0, 1) := by decide +kernel
theorem dX8_restore_15 : decode cX8_restore 15 = .ok (.getfield 23, 3) := by decide +kernel
theorem dX8_restore_18 : decode cX8_restore 18 = .ok (.invokevirtual 257, 3) := by decide +kernel
theorem dX8_restore_21 : decode cX8_restore 21 = .ok (.aload_n 0, 1) := by decide +kernel
theorem dX8_restore_22 : decode cX8_restore 22 = .ok (.getfield 19, 3) := by decide +kernel
theorem dX8_restore_25 : decode cX8_restore 25 = .ok (.aload_n 0, 1) := by decide +kernel
theorem dX8_restore_26 : decode cX8_restore 26 = .ok (.getfield 26, 3) := by decide +kernel
theorem dX8_restore_29 : decode cX8_restore 29 = .ok (.invokevirtual 259, 3) := by decide +kernel
theorem dX8_restore_32 : decode cX8_restore 32 = .ok (.iconst 1, 1) := by decide +kernel
theorem dX8_restore_33 : decode cX8_restore 33 = .ok (.ireturn, 1) := by decide +kernel
theorem dX8_got_0 : decode cX8_got 0 = .ok (.iload_n 1, 1) := by decide +kernel
theorem dX8_got_1 : decode cX8_got 1 = .ok (.invokestatic 57, 3) := by decide +kernel
theorem dX8_got_4 : decode cX8_got 4 = .ok (.ifCond .ne 30, 3) := by decide +kernel
theorem dX8_got_7 : decode cX8_got 7 = .ok (.iload_n 2, 1) := by decide +kernel
theorem dX8_got_8 : decode cX8_got 8 = .ok (.invokestatic 266, 3) := by decide +kernel
theorem dX8_got_11 : decode cX8_got 11 = .ok (.ifCond .ne 23, 3) := by decide +kernel
theorem dX8_got_14 : decode cX8_got 14 = .ok (.iload_n 3, 1) := by decide +kernel
theorem dX8_got_15 : decode cX8_got 15 = .ok (.invokestatic 269, 3) := by decide +kernel
theorem dX8_got_18 : decode cX8_got 18 = .ok (.ifCond .ne 16, 3) := by decide +kernel
theorem dX8_got_21 : decode cX8_got 21 = .ok (.iload 5, 2) := by decide +kernel
theorem dX8_got_23 : decode cX8_got 23 = .ok (.iconst 1, 1) := by decide +kernel
theorem dX8_got_24 : decode cX8_got 24 = .ok (.if_icmp .lt 10, 3) := by decide +kernel
theorem dX8_got_27 : decode cX8_got 27 = .ok (.iload 5, 2) := by decide +kernel
theorem dX8_got_29 : decode cX8_got 29 = .ok (.bipush 24, 2) := by decide +kernel
theorem dX8_got_31 : decode cX8_got 31 = .ok (.if_icmp .le 5, 3) := by decide +kernel
theorem dX8_got_34 : decode cX8_got 34 = .ok (.iconst (-1), 1) := by decide +kernel
theorem dX8_got_35 : decode cX8_got 35 = .ok (.ireturn, 1) := by decide +kernel
theorem dX8_got_36 : decode cX8_got 36 = .ok (.aload_n 0, 1) := by decide +kernel
theorem dX8_got_37 : decode cX8_got 37 = .ok (.getfield 38, 3) := by decide +kernel
theorem dX8_got_40 : decode cX8_got 40 = .ok (.iload_n 2, 1) := by decide +kernel
theorem dX8_got_41 : decode cX8_got 41 = .ok (.aaload, 1) := by decide +kernel
theorem dX8_got_42 : decode cX8_got 42 = .ok (.astore 6, 2) := by decide +kernel
theorem dX8_got_44 : decode cX8_got 44 = .ok (.aload 6, 2) := by decide +kernel
theorem dX8_got_46 : decode cX8_got 46 = .ok (.iload_n 3, 1) := by decide +kernel
theorem dX8_got_47 : decode cX8_got 47 = .ok (.iload 4, 2) := by decide +kernel
theorem dX8_got_49 : decode cX8_got 49 = .ok (.iload 5, 2) := by decide +kernel
theorem dX8_got_51 : decode cX8_got 51 = .ok (.invokevirtual 272, 3) := by decide +kernel
theorem dX8_got_54 : decode cX8_got 54 = .ok (.istore 7, 2) := by decide +kernel
theorem dX8_got_56 : decode cX8_got 56 = .ok (.iload 7, 2) := by decide +kernel
theorem dX8_got_58 : decode cX8_got 58 = .ok (.ifCond .eq 6, 3) := by decide +kernel
theorem dX8_got_61 : decode cX8_got 61 = .ok (.iload 7, 2) := by decide +kernel
theorem dX8_got_63 : decode cX8_got 63 = .ok (.ireturn, 1) := by decide +kernel
theorem dX8_got_64 : decode cX8_got 64 = .ok (.aload_n 0, 1) := by decide +kernel
theorem dX8_got_65 : decode cX8_got 65 = .ok (.aload 6, 2) := by decide +kernel
theorem dX8_got_67 : decode cX8_got 67 = .ok (.iload 4, 2) := by decide +kernel
theorem dX8_got_69 : decode cX8_got 69 = .ok (.iload 5, 2) := by decide +kernel
theorem dX8_got_71 : decode cX8_got 71 = .ok (.invokevirtual 276, 3) := by decide +kernel
theorem dX8_got_74 : decode cX8_got 74 = .ok (.ifCond .ne 6, 3) := by decide +kernel
theorem dX8_got_77 : decode cX8_got 77 = .ok (.bipush (-2), 2) := by decide +kernel
theorem dX8_got_79 : decode cX8_got 79 = .ok (.ireturn, 1) := by decide +kernel
theorem dX8_got_80 : decode cX8_got 80 = .ok (.aload_n 0, 1) := by decide +kernel
theorem dX8_got_81 : decode cX8_got 81 = .ok (.getfield 12, 3) := by decide +kernel
theorem dX8_got_84 : decode cX8_got 84 = .ok (.invokevirtual 145, 3) := by decide +kernel
theorem dX8_got_87 : decode cX8_got 87 = .ok (.istore 8, 2) := by decide +kernel
theorem dX8_got_89 : decode cX8_got 89 = .ok (.iload 8, 2) := by decide +kernel
theorem dX8_got_91 : decode cX8_got 91 = .ok (.bipush (-4), 2) := by decide +kernel
theorem dX8_got_93 : decode cX8_got 93 = .ok (.if_icmp .ne 6, 3) := by decide +kernel
theorem dX8_got_96 : decode cX8_got 96 = .ok (.bipush (-4), 2) := by decide +kernel
theorem dX8_got_98 : decode cX8_got 98 = .ok (.ireturn, 1) := by decide +kernel
theorem dX8_got_99 : decode cX8_got 99 = .ok (.aload_n 0, 1) := by decide +kernel
theorem dX8_got_100 : decode cX8_got 100 = .ok (.getfield 52, 3) := by decide +kernel
theorem dX8_got_103 : decode cX8_got 103 = .ok (.aload_n 0, 1) := by decide +kernel
theorem dX8_got_104 : decode cX8_got 104 = .ok (.getfield 12, 3) := by decide +kernel
theorem dX8_got_107 : decode cX8_got 107 = .ok (.getfield 120, 3) := by decide +kernel
theorem dX8_got_110 : decode cX8_got 110 = .ok (.iconst 1, 1) := by decide +kernel
theorem dX8_got_111 : decode cX8_got 111 = .ok (.iload_n 1, 1) := by decide +kernel
theorem dX8_got_112 : decode cX8_got 112 = .ok (.ishl, 1) := by decide +kernel
theorem dX8_got_113 : decode cX8_got 113 = .ok (.invokevirtual 206, 3) := by decide +kernel
theorem dX8_got_116 : decode cX8_got 116 = .ok (.iload 4, 2) := by decide +kernel
theorem dX8_got_118 : decode cX8_got 118 = .ok (.istore 9, 2) := by decide +kernel
theorem dX8_got_120 : decode cX8_got 120 = .ok (.iload 9, 2) := by decide +kernel
theorem dX8_got_122 : decode cX8_got 122 = .ok (.iload 4, 2) := by decide +kernel
theorem dX8_got_124 : decode cX8_got 124 = .ok (.iload 5, 2) := by decide +kernel
theorem dX8_got_126 : decode cX8_got 126 = .ok (.iadd, 1) := by decide +kernel
theorem dX8_got_127 : decode cX8_got 127 = .ok (.if_icmp .ge 33, 3) := by decide +kernel
theorem dX8_got_130 : decode cX8_got 130 = .ok (.aload_n 0, 1) := by decide +kernel
theorem dX8_got_131 : decode cX8_got 131 = .ok (.getfield 52, 3) := by decide +kernel
theorem dX8_got_134 : decode cX8_got 134 = .ok (.aload_n 0, 1) := by decide +kernel
theorem dX8_got_135 : decode cX8_got 135 = .ok (.getfield 12, 3) := by decide +kernel
theorem dX8_got_138 : decode cX8_got 138 = .ok (.getfield 178, 3) := by decide +kernel
theorem dX8_got_141 : decode cX8_got 141 = .ok (.aload 6, 2) := by decide +kernel
theorem dX8_got_143 : decode cX8_got 143 = .ok (.getfield 280, 3) := by decide +kernel
theorem dX8_got_146 : decode cX8_got 146 = .ok (.iload 9, 2) := by decide +kernel
theorem dX8_got_148 : decode cX8_got 148 = .ok (.laload, 1) := by decide +kernel
theorem dX8_got_149 : decode cX8_got 149 = .ok (.l2i, 1) := by decide +kernel
theorem dX8_got_150 : decode cX8_got 150 = .ok (.invokevirtual 284, 3) := by decide +kernel
theorem dX8_got_153 : decode cX8_got 153 = .ok (.pop, 1) := by decide +kernel
theorem dX8_got_154 : decode cX8_got 154 = .ok (.iinc 9 1, 3) := by decide +kernel
theorem dX8_got_157 : decode cX8_got 157 = .ok (.goto (-37), 3) := by decide +kernel
theorem dX8_got_160 : decode cX8_got 160 = .ok (.aload_n 0, 1) := by decide +kernel
theorem dX8_got_161 : decode cX8_got 161 = .ok (.getfield 52, 3) := by decide +kernel
theorem dX8_got_164 : decode cX8_got 164 = .ok (.iload 8, 2) := by decide +kernel
theorem dX8_got_166 : decode cX8_got 166 = .ok (.invokevirtual 214, 3) := by decide +kernel
theorem dX8_got_169 : decode cX8_got 169 = .ok (.ifCond .eq 7, 3) := by decide +kernel
theorem dX8_got_172 : decode cX8_got 172 = .ok (.iconst 1, 1) := by decide +kernel
theorem dX8_got_173 : decode cX8_got 173 = .ok (.goto 4, 3) := by decide +kernel
theorem dX8_got_176 : decode cX8_got 176 = .ok (.iconst 0, 1) := by decide +kernel
theorem dX8_got_177 : decode cX8_got 177 = .ok (.ireturn, 1) := by decide +kernel
theorem dX8_film_0 : decode cX8_film 0 = .ok (.iload_n 1, 1) := by decide +kernel
theorem dX8_film_1 : decode cX8_film 1 = .ok (.bipush 16, 2) := by decide +kernel
theorem dX8_film_3 : decode cX8_film 3 = .ok (.if_icmp .lt 23, 3) := by decide +kernel
theorem dX8_film_6 : decode cX8_film 6 = .ok (.iload_n 1, 1) := by decide +kernel
theorem dX8_film_7 : decode cX8_film 7 = .ok (.bipush 32, 2) := by decide +kernel
theorem dX8_film_9 : decode cX8_film 9 = .ok (.if_icmp .ge 17, 3) := by decide +kernel
theorem dX8_film_12 : decode cX8_film 12 = .ok (.iload_n 2, 1) := by decide +kernel
theorem dX8_film_13 : decode cX8_film 13 = .ok (.invokestatic 266, 3) := by decide +kernel
theorem dX8_film_16 : decode cX8_film 16 = .ok (.ifCond .ne 10, 3) := by decide +kernel
theorem dX8_film_19 : decode cX8_film 19 = .ok (.iload_n 3, 1) := by decide +kernel
theorem dX8_film_20 : decode cX8_film 20 = .ok (.invokestatic 269, 3) := by decide +kernel
theorem dX8_film_23 : decode cX8_film 23 = .ok (.ifCond .eq 5, 3) := by decide +kernel
theorem dX8_film_26 : decode cX8_film 26 = .ok (.iconst (-1), 1) := by decide +kernel
theorem dX8_film_27 : decode cX8_film 27 = .ok (.ireturn, 1) := by decide +kernel
theorem dX8_film_28 : decode cX8_film 28 = .ok (.aload_n 0, 1) := by decide +kernel
theorem dX8_film_29 : decode cX8_film 29 = .ok (.getfield 38, 3) := by decide +kernel
theorem dX8_film_32 : decode cX8_film 32 = .ok (.iload_n 2, 1) := by decide +kernel
theorem dX8_film_33 : decode cX8_film 33 = .ok (.aaload, 1) := by decide +kernel
theorem dX8_film_34 : decode cX8_film 34 = .ok (.astore 5, 2) := by decide +kernel
theorem dX8_film_36 : decode cX8_film 36 = .ok (.aload 5, 2) := by decide +kernel
theorem dX8_film_38 : decode cX8_film 38 = .ok (.iload_n 3, 1) := by decide +kernel
theorem dX8_film_39 : decode cX8_film 39 = .ok (.iload 4, 2) := by decide +kernel
theorem dX8_film_41 : decode cX8_film 41 = .ok (.iconst 5, 1) := by decide +kernel
theorem dX8_film_42 : decode cX8_film 42 = .ok (.invokevirtual 272, 3) := by decide +kernel
theorem dX8_film_45 : decode cX8_film 45 = .ok (.istore 6, 2) := by decide +kernel
theorem dX8_film_47 : decode cX8_film 47 = .ok (.iload 6, 2) := by decide +kernel
theorem dX8_film_49 : decode cX8_film 49 = .ok (.ifCond .eq 6, 3) := by decide +kernel
theorem dX8_film_52 : decode cX8_film 52 = .ok (.iload 6, 2) := by decide +kernel
theorem dX8_film_54 : decode cX8_film 54 = .ok (.ireturn, 1) := by decide +kernel
theorem dX8_film_55 : decode cX8_film 55 = .ok (.iload_n 1, 1) := by decide +kernel
theorem dX8_film_56 : decode cX8_film 56 = .ok (.istore 7, 2) := by decide +kernel
theorem dX8_film_58 : decode cX8_film 58 = .ok (.iconst 0, 1) := by decide +kernel
theorem dX8_film_59 : decode cX8_film 59 = .ok (.istore 8, 2) := by decide +kernel
theorem dX8_film_61 : decode cX8_film 61 = .ok (.iload 8, 2) := by decide +kernel
theorem dX8_film_63 : decode cX8_film 63 = .ok (.iconst 5, 1) := by decide +kernel
theorem dX8_film_64 : decode cX8_film 64 = .ok (.if_icmp .ge 39, 3) := by decide +kernel
theorem dX8_film_67 : decode cX8_film 67 = .ok (.aload 5, 2) := by decide +kernel
theorem dX8_film_69 : decode cX8_film 69 = .ok (.iload 4, 2) := by decide +kernel
theorem dX8_film_71 : decode cX8_film 71 = .ok (.iload 8, 2) := by decide +kernel
theorem dX8_film_73 : decode cX8_film 73 = .ok (.iadd, 1) := by decide +kernel
theorem dX8_film_74 : decode cX8_film 74 = .ok (.aload_n 0, 1) := by decide +kernel
theorem dX8_film_75 : decode cX8_film 75 = .ok (.getfield 12, 3) := by decide +kernel
theorem dX8_film_78 : decode cX8_film 78 = .ok (.getfield 120, 3) := by decide +kernel
theorem dX8_film_81 : decode cX8_film 81 = .ok (.getfield 160, 3) := by decide +kernel
theorem dX8_film_84 : decode cX8_film 84 = .ok (.iload 7, 2) := by decide +kernel
theorem dX8_film_86 : decode cX8_film 86 = .ok (.iaload, 1) := by decide +kernel
theorem dX8_film_87 : decode cX8_film 87 = .ok (.i2l, 1) := by decide +kernel
theorem dX8_film_88 : decode cX8_film 88 = .ok (.invokevirtual 288, 3) := by decide +kernel
theorem dX8_film_91 : decode cX8_film 91 = .ok (.iload 7, 2) := by decide +kernel
theorem dX8_film_93 : decode cX8_film 93 = .ok (.iconst 2, 1) := by decide +kernel
theorem dX8_film_94 : decode cX8_film 94 = .ok (.idiv, 1) := by decide +kernel
theorem dX8_film_95 : decode cX8_film 95 = .ok (.istore 7, 2) := by decide +kernel
theorem dX8_film_97 : decode cX8_film 97 = .ok (.iinc 8 1, 3) := by decide +kernel
theorem dX8_film_100 : decode cX8_film 100 = .ok (.goto (-39), 3) := by decide +kernel
theorem dX8_film_103 : decode cX8_film 103 = .ok (.iconst 5, 1) := by decide +kernel
theorem dX8_film_104 : decode cX8_film 104 = .ok (.ireturn, 1) := by decide +kernel
theorem dX8_sheet_0 : decode cX8_sheet 0 = .ok (.iload_n 1, 1) := by decide +kernel
theorem dX8_sheet_1 : decode cX8_sheet 1 = .ok (.invokestatic 266, 3) := by decide +kernel
theorem dX8_sheet_4 : decode cX8_sheet 4 = .ok (.ifCond .ne 16, 3) := by decide +kernel
theorem dX8_sheet_7 : decode cX8_sheet 7 = .ok (.iload_n 2, 1) := by decide +kernel
theorem dX8_sheet_8 : decode cX8_sheet 8 = .ok (.invokestatic 269, 3) := by decide +kernel
theorem dX8_sheet_11 : decode cX8_sheet 11 = .ok (.ifCond .ne 9, 3) := by decide +kernel
theorem dX8_sheet_14 : decode cX8_sheet 14 = .ok (.iload_n 3, 1) := by decide +kernel
theorem dX8_sheet_15 : decode cX8_sheet 15 = .ok (.bipush 24, 2) := by decide +kernel
theorem dX8_sheet_17 : decode cX8_sheet 17 = .ok (.if_icmp .le 5, 3) := by decide +kernel
theorem dX8_sheet_20 : decode cX8_sheet 20 = .ok (.iconst (-1), 1) := by decide +kernel
theorem dX8_sheet_21 : decode cX8_sheet 21 = .ok (.ireturn, 1) := by decide +kernel
theorem dX8_sheet_22 : decode cX8_sheet 22 = .ok (.iload_n 3, 1) := by decide +kernel
theorem dX8_sheet_23 : decode cX8_sheet 23 = .ok (.ifCond .ge 6, 3) := by decide +kernel
theorem dX8_sheet_26 : decode cX8_sheet 26 = .ok (.bipush (-14), 2) := by decide +kernel
theorem dX8_sheet_28 : decode cX8_sheet 28 = .ok (.ireturn, 1) := by decide +kernel
theorem dX8_sheet_29 : decode cX8_sheet 29 = .ok (.aload_n 0, 1) := by decide +kernel
theorem dX8_sheet_30 : decode cX8_sheet 30 = .ok (.getfield 38, 3) := by decide +kernel
theorem dX8_sheet_33 : decode cX8_sheet 33 = .ok (.iload_n 1, 1) := by decide +kernel
theorem dX8_sheet_34 : decode cX8_sheet 34 = .ok (.aaload, 1) := by decide +kernel
theorem dX8_sheet_35 : decode cX8_sheet 35 = .ok (.iload_n 2, 1) := by decide +kernel
theorem dX8_sheet_36 : decode cX8_sheet 36 = .ok (.iload_n 3, 1) := by decide +kernel
theorem dX8_sheet_37 : decode cX8_sheet 37 = .ok (.invokevirtual 292, 3) := by decide +kernel
theorem dX8_sheet_40 : decode cX8_sheet 40 = .ok (.iload_n 3, 1) := by decide +kernel
theorem dX8_sheet_41 : decode cX8_sheet 41 = .ok (.ireturn, 1) := by decide +kernel
theorem dX8_drop_0 : decode cX8_drop 0 = .ok (.iload_n 1, 1) := by decide +kernel
theorem dX8_drop_1 : decode cX8_drop 1 = .ok (.invokestatic 266, 3) := by decide +kernel
theorem dX8_drop_4 : decode cX8_drop 4 = .ok (.ifCond .eq 5, 3) := by decide +kernel
theorem dX8_drop_7 : decode cX8_drop 7 = .ok (.iconst (-1), 1) := by decide +kernel
theorem dX8_drop_8 : decode cX8_drop 8 = .ok (.ireturn, 1) := by decide +kernel
theorem dX8_drop_9 : decode cX8_drop 9 = .ok (.aload_n 0, 1) := by decide +kernel
theorem dX8_drop_10 : decode cX8_drop 10 = .ok (.getfield 38, 3) := by decide +kernel
theorem dX8_drop_13 : decode cX8_drop 13 = .ok (.iload_n 1, 1) := by decide +kernel
theorem dX8_drop_14 : decode cX8_drop 14 = .ok (.aaload, 1) := by decide +kernel
theorem dX8_drop_15 : decode cX8_drop 15 = .ok (.astore_n 2, 1) := by decide +kernel
theorem dX8_drop_16 : decode cX8_drop 16 = .ok (.aload_n 2, 1) := by decide +kernel
theorem dX8_drop_17 : decode cX8_drop 17 = .ok (.getfield 296, 3) := by decide +kernel
theorem dX8_drop_20 : decode cX8_drop 20 = .ok (.iconst (-1), 1) := by decide +kernel
theorem dX8_drop_21 : decode cX8_drop 21 = .ok (.if_icmp .ne 6, 3) := by decide +kernel
theorem dX8_drop_24 : decode cX8_drop 24 = .ok (.bipush (-11), 2) := by decide +kernel
theorem dX8_drop_26 : decode cX8_drop 26 = .ok (.ireturn, 1) := by decide +kernel
theorem dX8_drop_27 : decode cX8_drop 27 = .ok (.aload_n 2, 1) := by decide +kernel
theorem dX8_drop_28 : decode cX8_drop 28 = .ok (.getfield 299, 3) := by decide +kernel
theorem dX8_drop_31 : decode cX8_drop 31 = .ok (.istore_n 3, 1) := by decide +kernel
theorem dX8_drop_32 : decode cX8_drop 32 = .ok (.aload_n 2, 1) := by decide +kernel
theorem dX8_drop_33 : decode cX8_drop 33 = .ok (.iconst (-1), 1) := by decide +kernel
theorem dX8_drop_34 : decode cX8_drop 34 = .ok (.iconst 0, 1) := by decide +kernel
theorem dX8_drop_35 : decode cX8_drop 35 = .ok (.invokevirtual 292, 3) := by decide +kernel
theorem dX8_drop_38 : decode cX8_drop 38 = .ok (.iload_n 3, 1) := by decide +kernel
theorem dX8_drop_39 : decode cX8_drop 39 = .ok (.ireturn, 1) := by decide +kernel
theorem dX8_item_0 : decode cX8_item 0 = .ok (.iload_n 1, 1) := by decide +kernel
theorem dX8_item_1 : decode cX8_item 1 = .ok (.invokestatic 266, 3) := by decide +kernel
theorem dX8_item_4 : decode cX8_item 4 = .ok (.ifCond .ne 10, 3) := by decide +kernel
theorem dX8_item_7 : decode cX8_item 7 = .ok (.iload_n 2, 1) := by decide +kernel
theorem dX8_item_8 : decode cX8_item 8 = .ok (.invokestatic 269, 3) := by decide +kernel
theorem dX8_item_11 : decode cX8_item 11 = .ok (.ifCond .eq 5, 3) := by decide +kernel
theorem dX8_item_14 : decode cX8_item 14 = .ok (.iconst (-1), 1) := by decide +kernel
theorem dX8_item_15 : decode cX8_item 15 = .ok (.ireturn, 1) := by decide +kernel
theorem dX8_item_16 : decode cX8_item 16 = .ok (.aload_n 0, 1) := by decide +kernel
theorem dX8_item_17 : decode cX8_item 17 = .ok (.getfield 38, 3) := by decide +kernel
theorem dX8_item_20 : decode cX8_item 20 = .ok (.iload_n 1, 1) := by decide +kernel
theorem dX8_item_21 : decode cX8_item 21 = .ok (.aaload, 1) := by decide +kernel
theorem dX8_item_22 : decode cX8_item 22 = .ok (.astore 6, 2) := by decide +kernel
theorem dX8_item_24 : decode cX8_item 24 = .ok (.aload 6, 2) := by decide +kernel
theorem dX8_item_26 : decode cX8_item 26 = .ok (.iload_n 2, 1) := by decide +kernel
theorem dX8_item_27 : decode cX8_item 27 = .ok (.iload_n 3, 1) := by decide +kernel
theorem dX8_item_28 : decode cX8_item 28 = .ok (.iconst 1, 1) := by decide +kernel
theorem dX8_item_29 : decode cX8_item 29 = .ok (.invokevirtual 272, 3) := by decide +kernel
theorem dX8_item_32 : decode cX8_item 32 = .ok (.istore 7, 2) := by decide +kernel
theorem dX8_item_34 : decode cX8_item 34 = .ok (.iload 7, 2) := by decide +kernel
theorem dX8_item_36 : decode cX8_item 36 = .ok (.ifCond .eq 6, 3) := by decide +kernel
theorem dX8_item_39 : decode cX8_item 39 = .ok (.iload 7, 2) := by decide +kernel
theorem dX8_item_41 : decode cX8_item 41 = .ok (.ireturn, 1) := by decide +kernel
theorem dX8_item_42 : decode cX8_item 42 = .ok (.aload 6, 2) := by decide +kernel
theorem dX8_item_44 : decode cX8_item 44 = .ok (.iload_n 3, 1) := by decide +kernel
theorem dX8_item_45 : decode cX8_item 45 = .ok (.lload 4, 2) := by decide +kernel
theorem dX8_item_47 : decode cX8_item 47 = .ok (.invokevirtual 288, 3) := by decide +kernel
theorem dX8_item_50 : decode cX8_item 50 = .ok (.iconst 1, 1) := by decide +kernel
theorem dX8_item_51 : decode cX8_item 51 = .ok (.ireturn, 1) := by decide +kernel
theorem dX8_noMember_0 : decode cX8_noMember 0 = .ok (.iload_n 0, 1) := by decide +kernel
theorem dX8_noMember_1 : decode cX8_noMember 1 = .ok (.ifCond .lt 9, 3) := by decide +kernel
theorem dX8_noMember_4 : decode cX8_noMember 4 = .ok (.iload_n 0, 1) := by decide +kernel
theorem dX8_noMember_5 : decode cX8_noMember 5 = .ok (.bipush 16, 2) := by decide +kernel
theorem dX8_noMember_7 : decode cX8_noMember 7 = .ok (.if_icmp .lt 7, 3) := by decide +kernel
theorem dX8_noMember_10 : decode cX8_noMember 10 = .ok (.iconst 1, 1) := by decide +kernel
theorem dX8_noMember_11 : decode cX8_noMember 11 = .ok (.goto 4, 3) := by decide +kernel
theorem dX8_noMember_14 : decode cX8_noMember 14 = .ok (.iconst 0, 1) := by decide +kernel
theorem dX8_noMember_15 : decode cX8_noMember 15 = .ok (.ireturn, 1) := by decide +kernel
theorem dX8_noSheet_0 : decode cX8_noSheet 0 = .ok (.iload_n 0, 1) := by decide +kernel
theorem dX8_noSheet_1 : decode cX8_noSheet 1 = .ok (.ifCond .lt 8, 3) := by decide +kernel
theorem dX8_noSheet_4 : decode cX8_noSheet 4 = .ok (.iload_n 0, 1) := by decide +kernel
theorem dX8_noSheet_5 : decode cX8_noSheet 5 = .ok (.iconst 4, 1) := by decide +kernel
theorem dX8_noSheet_6 : decode cX8_noSheet 6 = .ok (.if_icmp .lt 7, 3) := by decide +kernel
theorem dX8_noSheet_9 : decode cX8_noSheet 9 = .ok (.iconst 1, 1) := by decide +kernel
theorem dX8_noSheet_10 : decode cX8_noSheet 10 = .ok (.goto 4, 3) := by decide +kernel
theorem dX8_noSheet_13 : decode cX8_noSheet 13 = .ok (.iconst 0, 1) := by decide +kernel
theorem dX8_noSheet_14 : decode cX8_noSheet 14 = .ok (.ireturn, 1) := by decide +kernel
theorem dX8_noLane_0 : decode cX8_noLane 0 = .ok (.iload_n 0, 1) := by decide +kernel
theorem dX8_noLane_1 : decode cX8_noLane 1 = .ok (.ifCond .lt 8, 3) := by decide +kernel
theorem dX8_noLane_4 : decode cX8_noLane 4 = .ok (.iload_n 0, 1) := by decide +kernel
theorem dX8_noLane_5 : decode cX8_noLane 5 = .ok (.iconst 4, 1) := by decide +kernel
theorem dX8_noLane_6 : decode cX8_noLane 6 = .ok (.if_icmp .lt 7, 3) := by decide +kernel
theorem dX8_noLane_9 : decode cX8_noLane 9 = .ok (.iconst 1, 1) := by decide +kernel
theorem dX8_noLane_10 : decode cX8_noLane 10 = .ok (.goto 4, 3) := by decide +kernel
theorem dX8_noLane_13 : decode cX8_noLane 13 = .ok (.iconst 0, 1) := by decide +kernel
theorem dX8_noLane_14 : decode cX8_noLane 14 = .ok (.ireturn, 1) := by decide +kernel
theorem dX8_bit_0 : decode cX8_bit 0 = .ok (.iload_n 0, 1) := by decide +kernel
theorem dX8_bit_1 : decode cX8_bit 1 = .ok (.iload_n 1, 1) := by decide +kernel
theorem dX8_bit_2 : decode cX8_bit 2 = .ok (.iushr, 1) := by decide +kernel
theorem dX8_bit_3 : decode cX8_bit 3 = .ok (.iconst 1, 1) := by decide +kernel
theorem dX8_bit_4 : decode cX8_bit 4 = .ok (.iand, 1) := by decide +kernel
theorem dX8_bit_5 : decode cX8_bit 5 = .ok (.ireturn, 1) := by decide +kernel
theorem dX8_has_0 : decode cX8_has 0 = .ok (.iload_n 0, 1) := by decide +kernel
theorem dX8_has_1 : decode cX8_has 1 = .ok (.iload_n 1, 1) := by decide +kernel
theorem dX8_has_2 : decode cX8_has 2 = .ok (.invokestatic 151, 3) := by decide +kernel
theorem dX8_has_5 : decode cX8_has 5 = .ok (.iconst 1, 1) := by decide +kernel
theorem dX8_has_6 : decode cX8_has 6 = .ok (.if_icmp .ne 7, 3) := by decide +kernel
theorem dX8_has_9 : decode cX8_has 9 = .ok (.iconst 1, 1) := by decide +kernel
theorem dX8_has_10 : decode cX8_has 10 = .ok (.goto 4, 3) := by decide +kernel
theorem dX8_has_13 : decode cX8_has 13 = .ok (.iconst 0, 1) := by decide +kernel
theorem dX8_has_14 : decode cX8_has 14 = .ok (.ireturn, 1) := by decide +kernel
theorem dX8_commonOfTen_0 : decode cX8_commonOfTen 0 = .ok (.bipush 10, 2) := by decide +kernel
theorem dX8_commonOfTen_2 : decode cX8_commonOfTen 2 = .ok (.istore_n 1, 1) := by decide +kernel
theorem dX8_commonOfTen_3 : decode cX8_commonOfTen 3 = .ok (.iload_n 1, 1) := by decide +kernel
theorem dX8_commonOfTen_4 : decode cX8_commonOfTen 4 = .ok (.iconst 1, 1) := by decide +kernel
theorem dX8_commonOfTen_5 : decode cX8_commonOfTen 5 = .ok (.if_icmp .le 24, 3) := by decide +kernel
theorem dX8_commonOfTen_8 : decode cX8_commonOfTen 8 = .ok (.bipush 10, 2) := by decide +kernel
theorem dX8_commonOfTen_10 : decode cX8_commonOfTen 10 = .ok (.iload_n 1, 1) := by decide +kernel
theorem dX8_commonOfTen_11 : decode cX8_commonOfTen 11 = .ok (.irem, 1) := by decide +kernel
theorem dX8_commonOfTen_12 : decode cX8_commonOfTen 12 = .ok (.ifCond .ne 11, 3) := by decide +kernel
theorem dX8_commonOfTen_15 : decode cX8_commonOfTen 15 = .ok (.iload_n 0, 1) := by decide +kernel
theorem dX8_commonOfTen_16 : decode cX8_commonOfTen 16 = .ok (.iload_n 1, 1) := by decide +kernel
theorem dX8_commonOfTen_17 : decode cX8_commonOfTen 17 = .ok (.irem, 1) := by decide +kernel
theorem dX8_commonOfTen_18 : decode cX8_commonOfTen 18 = .ok (.ifCond .ne 5, 3) := by decide +kernel
theorem dX8_commonOfTen_21 : decode cX8_commonOfTen 21 = .ok (.iload_n 1, 1) := by decide +kernel
theorem dX8_commonOfTen_22 : decode cX8_commonOfTen 22 = .ok (.ireturn, 1) := by decide +kernel
theorem dX8_commonOfTen_23 : decode cX8_commonOfTen 23 = .ok (.iinc 1 (-1), 3) := by decide +kernel
theorem dX8_commonOfTen_26 : decode cX8_commonOfTen 26 = .ok (.goto (-23), 3) := by decide +kernel
theorem dX8_commonOfTen_29 : decode cX8_commonOfTen 29 = .ok (.iconst 1, 1) := by decide +kernel
theorem dX8_commonOfTen_30 : decode cX8_commonOfTen 30 = .ok (.ireturn, 1) := by decide +kernel
theorem dX8_planSingles_0 : decode cX8_planSingles 0 = .ok (.iconst 0, 1) := by decide +kernel
theorem dX8_planSingles_1 : decode cX8_planSingles 1 = .ok (.istore_n 1, 1) := by decide +kernel
theorem dX8_planSingles_2 : decode cX8_planSingles 2 = .ok (.iconst 0, 1) := by decide +kernel
theorem dX8_planSingles_3 : decode cX8_planSingles 3 = .ok (.istore_n 2, 1) := by decide +kernel
theorem dX8_planSingles_4 : decode cX8_planSingles 4 = .ok (.iload_n 2, 1) := by decide +kernel
theorem dX8_planSingles_5 : decode cX8_planSingles 5 = .ok (.bipush 16, 2) := by decide +kernel
theorem dX8_planSingles_7 : decode cX8_planSingles 7 = .ok (.if_icmp .ge 38, 3) := by decide +kernel
theorem dX8_planSingles_10 : decode cX8_planSingles 10 = .ok (.iload_n 1, 1) := by decide +kernel
theorem dX8_planSingles_11 : decode cX8_planSingles 11 = .ok (.aload_n 0, 1) := by decide +kernel
theorem dX8_planSingles_12 : decode cX8_planSingles 12 = .ok (.getfield 45, 3) := by decide +kernel
theorem dX8_planSingles_15 : decode cX8_planSingles 15 = .ok (.aload_n 0, 1) := by decide +kernel
theorem dX8_planSingles_16 : decode cX8_planSingles 16 = .ok (.getfield 45, 3) := by decide +kernel
theorem dX8_planSingles_19 : decode cX8_planSingles 19 = .ok (.aload_n 0, 1) := by decide +kernel
theorem dX8_planSingles_20 : decode cX8_planSingles 20 = .ok (.getfield 12, 3) := by decide +kernel
theorem dX8_planSingles_23 : decode cX8_planSingles 23 = .ok (.getfield 88, 3) := by decide +kernel
theorem dX8_planSingles_26 : decode cX8_planSingles 26 = .ok (.iconst 1, 1) := by decide +kernel
theorem dX8_planSingles_27 : decode cX8_planSingles 27 = .ok (.iload_n 2, 1) := by decide +kernel
theorem dX8_planSingles_28 : decode cX8_planSingles 28 = .ok (.ishl, 1) := by decide +kernel
theorem dX8_planSingles_29 : decode cX8_planSingles 29 = .ok (.iand, 1) := by decide +kernel
theorem dX8_planSingles_30 : decode cX8_planSingles 30 = .ok (.iconst 0, 1) := by decide +kernel
theorem dX8_planSingles_31 : decode cX8_planSingles 31 = .ok (.invokevirtual 220, 3) := by decide +kernel
theorem dX8_planSingles_34 : decode cX8_planSingles 34 = .ok (.invokevirtual 223, 3) := by decide +kernel
theorem dX8_planSingles_37 : decode cX8_planSingles 37 = .ok (.iadd, 1) := by decide +kernel
theorem dX8_planSingles_38 : decode cX8_planSingles 38 = .ok (.istore_n 1, 1) := by decide +kernel
theorem dX8_planSingles_39 : decode cX8_planSingles 39 = .ok (.iinc 2 1, 3) := by decide +kernel
theorem dX8_planSingles_42 : decode cX8_planSingles 42 = .ok (.goto (-38), 3) := by decide +kernel
theorem dX8_planSingles_45 : decode cX8_planSingles 45 = .ok (.iconst 0, 1) := by decide +kernel
theorem dX8_planSingles_46 : decode cX8_planSingles 46 = .ok (.istore_n 2, 1) := by decide +kernel
theorem dX8_planSingles_47 : decode cX8_planSingles 47 = .ok (.iload_n 2, 1) := by decide +kernel
theorem dX8_planSingles_48 : decode cX8_planSingles 48 = .ok (.bipush 16, 2) := by decide +kernel
theorem dX8_planSingles_50 : decode cX8_planSingles 50 = .ok (.if_icmp .ge 38, 3) := by decide +kernel
theorem dX8_planSingles_53 : decode cX8_planSingles 53 = .ok (.iload_n 1, 1) := by decide +kernel
theorem dX8_planSingles_54 : decode cX8_planSingles 54 = .ok (.aload_n 0, 1) := by decide +kernel
theorem dX8_planSingles_55 : decode cX8_planSingles 55 = .ok (.getfield 45, 3) := by decide +kernel
theorem dX8_planSingles_58 : decode cX8_planSingles 58 = .ok (.aload_n 0, 1) := by decide +kernel
theorem dX8_planSingles_59 : decode cX8_planSingles 59 = .ok (.getfield 45, 3) := by decide +kernel
theorem dX8_planSingles_62 : decode cX8_planSingles 62 = .ok (.iconst 0, 1) := by decide +kernel
theorem dX8_planSingles_63 : decode cX8_planSingles 63 = .ok (.aload_n 0, 1) := by decide +kernel
theorem dX8_planSingles_64 : decode cX8_planSingles 64 = .ok (.getfield 12, 3) := by decide +kernel
theorem dX8_planSingles_67 : decode cX8_planSingles 67 = .ok (.getfield 72, 3) := by decide +kernel
theorem dX8_planSingles_70 : decode cX8_planSingles 70 = .ok (.iconst 1, 1) := by decide +kernel
theorem dX8_planSingles_71 : decode cX8_planSingles 71 = .ok (.iload_n 2, 1) := by decide +kernel
theorem dX8_planSingles_72 : decode cX8_planSingles 72 = .ok (.ishl, 1) := by decide +kernel
theorem dX8_planSingles_73 : decode cX8_planSingles 73 = .ok (.iand, 1) := by decide +kernel
theorem dX8_planSingles_74 : decode cX8_planSingles 74 = .ok (.invokevirtual 220, 3) := by decide +kernel
theorem dX8_planSingles_77 : decode cX8_planSingles 77 = .ok (.invokevirtual 223, 3) := by decide +kernel
theorem dX8_planSingles_80 : decode cX8_planSingles 80 = .ok (.iadd, 1) := by decide +kernel
theorem dX8_planSingles_81 : decode cX8_planSingles 81 = .ok (.istore_n 1, 1) := by decide +kernel
theorem dX8_planSingles_82 : decode cX8_planSingles 82 = .ok (.iinc 2 1, 3) := by decide +kernel
theorem dX8_planSingles_85 : decode cX8_planSingles 85 = .ok (.goto (-38), 3) := by decide +kernel
theorem dX8_planSingles_88 : decode cX8_planSingles 88 = .ok (.iload_n 1, 1) := by decide +kernel
theorem dX8_planSingles_89 : decode cX8_planSingles 89 = .ok (.ireturn, 1) := by decide +kernel
theorem dX8_driftOnce_0 : decode cX8_driftOnce 0 = .ok (.aload_n 0, 1) := by decide +kernel
theorem dX8_driftOnce_1 : decode cX8_driftOnce 1 = .ok (.getfield 12, 3) := by decide +kernel
theorem dX8_driftOnce_4 : decode cX8_driftOnce 4 = .ok (.aload_n 0, 1) := by decide +kernel
theorem dX8_driftOnce_5 : decode cX8_driftOnce 5 = .ok (.getfield 12, 3) := by decide +kernel
theorem dX8_driftOnce_8 : decode cX8_driftOnce 8 = .ok (.getfield 254, 3) := by decide +kernel
theorem dX8_driftOnce_11 : decode cX8_driftOnce 11 = .ok (.ldc_w 332, 3) := by decide +kernel
theorem dX8_driftOnce_14 : decode cX8_driftOnce 14 = .ok (.imul, 1) := by decide +kernel
theorem dX8_driftOnce_15 : decode cX8_driftOnce 15 = .ok (.sipush 12345, 3) := by decide +kernel
theorem dX8_driftOnce_18 : decode cX8_driftOnce 18 = .ok (.iadd, 1) := by decide +kernel
theorem dX8_driftOnce_19 : decode cX8_driftOnce 19 = .ok (.ldc_w 333, 3) := by decide +kernel
theorem dX8_driftOnce_22 : decode cX8_driftOnce 22 = .ok (.iand, 1) := by decide +kernel
theorem dX8_driftOnce_23 : decode cX8_driftOnce 23 = .ok (.putfield 254, 3) := by decide +kernel
theorem dX8_driftOnce_26 : decode cX8_driftOnce 26 = .ok (.aload_n 0, 1) := by decide +kernel
theorem dX8_driftOnce_27 : decode cX8_driftOnce 27 = .ok (.getfield 12, 3) := by decide +kernel
theorem dX8_driftOnce_30 : decode cX8_driftOnce 30 = .ok (.getfield 254, 3) := by decide +kernel
theorem dX8_driftOnce_33 : decode cX8_driftOnce 33 = .ok (.bipush 16, 2) := by decide +kernel
theorem dX8_driftOnce_35 : decode cX8_driftOnce 35 = .ok (.iushr, 1) := by decide +kernel
theorem dX8_driftOnce_36 : decode cX8_driftOnce 36 = .ok (.istore_n 1, 1) := by decide +kernel
theorem dX8_driftOnce_37 : decode cX8_driftOnce 37 = .ok (.iload_n 1, 1) := by decide +kernel
theorem dX8_driftOnce_38 : decode cX8_driftOnce 38 = .ok (.bipush 16, 2) := by decide +kernel
theorem dX8_driftOnce_40 : decode cX8_driftOnce 40 = .ok (.idiv, 1) := by decide +kernel
theorem dX8_driftOnce_41 : decode cX8_driftOnce 41 = .ok (.bipush 16, 2) := by decide +kernel
theorem dX8_driftOnce_43 : decode cX8_driftOnce 43 = .ok (.irem, 1) := by decide +kernel
theorem dX8_driftOnce_44 : decode cX8_driftOnce 44 = .ok (.istore_n 2, 1) := by decide +kernel
theorem dX8_driftOnce_45 : decode cX8_driftOnce 45 = .ok (.iload_n 1, 1) := by decide +kernel
theorem dX8_driftOnce_46 : decode cX8_driftOnce 46 = .ok (.bipush 8, 2) := by decide +kernel
theorem dX8_driftOnce_48 : decode cX8_driftOnce 48 = .ok (.irem, 1) := by decide +kernel
theorem dX8_driftOnce_49 : decode cX8_driftOnce 49 = .ok (.tableswitch 111 4 7 #[31, 31, 42, 88], 31) := by decide +kernel
theorem dX8_driftOnce_80 : decode cX8_driftOnce 80 = .ok (.aload_n 0, 1) := by decide +kernel
theorem dX8_driftOnce_81 : decode cX8_driftOnce 81 = .ok (.getfield 12, 3) := by decide +kernel
theorem dX8_driftOnce_84 : decode cX8_driftOnce 84 = .ok (.invokevirtual 318, 3) := by decide +kernel
theorem dX8_driftOnce_87 : decode cX8_driftOnce 87 = .ok (.pop, 1) := by decide +kernel
theorem dX8_driftOnce_88 : decode cX8_driftOnce 88 = .ok (.goto 107, 3) := by decide +kernel
theorem dX8_driftOnce_91 : decode cX8_driftOnce 91 = .ok (.aload_n 0, 1) := by decide +kernel
theorem dX8_driftOnce_92 : decode cX8_driftOnce 92 = .ok (.getfield 12, 3) := by decide +kernel
theorem dX8_driftOnce_95 : decode cX8_driftOnce 95 = .ok (.iload_n 2, 1) := by decide +kernel
theorem dX8_driftOnce_96 : decode cX8_driftOnce 96 = .ok (.invokevirtual 98, 3) := by decide +kernel
theorem dX8_driftOnce_99 : decode cX8_driftOnce 99 = .ok (.ifCond .eq 15, 3) := by decide +kernel
theorem dX8_driftOnce_102 : decode cX8_driftOnce 102 = .ok (.aload_n 0, 1) := by decide +kernel
theorem dX8_driftOnce_103 : decode cX8_driftOnce 103 = .ok (.getfield 12, 3) := by decide +kernel
theorem dX8_driftOnce_106 : decode cX8_driftOnce 106 = .ok (.iload_n 2, 1) := by decide +kernel
theorem dX8_driftOnce_107 : decode cX8_driftOnce 107 = .ok (.invokevirtual 104, 3) := by decide +kernel
theorem dX8_driftOnce_110 : decode cX8_driftOnce 110 = .ok (.pop, 1) := by decide +kernel
theorem dX8_driftOnce_111 : decode cX8_driftOnce 111 = .ok (.goto 84, 3) := by decide +kernel
theorem dX8_driftOnce_114 : decode cX8_driftOnce 114 = .ok (.aload_n 0, 1) := by decide +kernel
theorem dX8_driftOnce_115 : decode cX8_driftOnce 115 = .ok (.getfield 12, 3) := by decide +kernel
theorem dX8_driftOnce_118 : decode cX8_driftOnce 118 = .ok (.iload_n 2, 1) := by decide +kernel
theorem dX8_driftOnce_119 : decode cX8_driftOnce 119 = .ok (.invokevirtual 101, 3) := by decide +kernel
theorem dX8_driftOnce_122 : decode cX8_driftOnce 122 = .ok (.ifCond .eq 73, 3) := by decide +kernel
theorem dX8_driftOnce_125 : decode cX8_driftOnce 125 = .ok (.aload_n 0, 1) := by decide +kernel
theorem dX8_driftOnce_126 : decode cX8_driftOnce 126 = .ok (.getfield 12, 3) := by decide +kernel
theorem dX8_driftOnce_129 : decode cX8_driftOnce 129 = .ok (.iload_n 2, 1) := by decide +kernel
theorem dX8_driftOnce_130 : decode cX8_driftOnce 130 = .ok (.invokevirtual 107, 3) := by decide +kernel
theorem dX8_driftOnce_133 : decode cX8_driftOnce 133 = .ok (.pop, 1) := by decide +kernel
theorem dX8_driftOnce_134 : decode cX8_driftOnce 134 = .ok (.goto 61, 3) := by decide +kernel
theorem dX8_driftOnce_137 : decode cX8_driftOnce 137 = .ok (.aload_n 0, 1) := by decide +kernel
theorem dX8_driftOnce_138 : decode cX8_driftOnce 138 = .ok (.getfield 12, 3) := by decide +kernel
theorem dX8_driftOnce_141 : decode cX8_driftOnce 141 = .ok (.iload_n 2, 1) := by decide +kernel
theorem dX8_driftOnce_142 : decode cX8_driftOnce 142 = .ok (.invokevirtual 114, 3) := by decide +kernel
theorem dX8_driftOnce_145 : decode cX8_driftOnce 145 = .ok (.ifCond .ne 50, 3) := by decide +kernel
theorem dX8_driftOnce_148 : decode cX8_driftOnce 148 = .ok (.aload_n 0, 1) := by decide +kernel
theorem dX8_driftOnce_149 : decode cX8_driftOnce 149 = .ok (.getfield 12, 3) := by decide +kernel
theorem dX8_driftOnce_152 : decode cX8_driftOnce 152 = .ok (.iload_n 2, 1) := by decide +kernel
theorem dX8_driftOnce_153 : decode cX8_driftOnce 153 = .ok (.invokevirtual 117, 3) := by decide +kernel
theorem dX8_driftOnce_156 : decode cX8_driftOnce 156 = .ok (.pop, 1) := by decide +kernel
theorem dX8_driftOnce_157 : decode cX8_driftOnce 157 = .ok (.goto 38, 3) := by decide +kernel
theorem dX8_driftOnce_160 : decode cX8_driftOnce 160 = .ok (.aload_n 0, 1) := by decide +kernel
theorem dX8_driftOnce_161 : decode cX8_driftOnce 161 = .ok (.getfield 12, 3) := by decide +kernel
theorem dX8_driftOnce_164 : decode cX8_driftOnce 164 = .ok (.getfield 132, 3) := by decide +kernel
theorem dX8_driftOnce_167 : decode cX8_driftOnce 167 = .ok (.iload_n 2, 1) := by decide +kernel
theorem dX8_driftOnce_168 : decode cX8_driftOnce 168 = .ok (.invokevirtual 135, 3) := by decide +kernel
theorem dX8_driftOnce_171 : decode cX8_driftOnce 171 = .ok (.ifCond .eq 15, 3) := by decide +kernel
theorem dX8_driftOnce_174 : decode cX8_driftOnce 174 = .ok (.aload_n 0, 1) := by decide +kernel
theorem dX8_driftOnce_175 : decode cX8_driftOnce 175 = .ok (.getfield 12, 3) := by decide +kernel
theorem dX8_driftOnce_178 : decode cX8_driftOnce 178 = .ok (.iload_n 2, 1) := by decide +kernel
theorem dX8_driftOnce_179 : decode cX8_driftOnce 179 = .ok (.invokevirtual 329, 3) := by decide +kernel
theorem dX8_driftOnce_182 : decode cX8_driftOnce 182 = .ok (.pop, 1) := by decide +kernel
theorem dX8_driftOnce_183 : decode cX8_driftOnce 183 = .ok (.goto 12, 3) := by decide +kernel
theorem dX8_driftOnce_186 : decode cX8_driftOnce 186 = .ok (.aload_n 0, 1) := by decide +kernel
theorem dX8_driftOnce_187 : decode cX8_driftOnce 187 = .ok (.getfield 12, 3) := by decide +kernel
theorem dX8_driftOnce_190 : decode cX8_driftOnce 190 = .ok (.iload_n 2, 1) := by decide +kernel
theorem dX8_driftOnce_191 : decode cX8_driftOnce 191 = .ok (.invokevirtual 326, 3) := by decide +kernel
theorem dX8_driftOnce_194 : decode cX8_driftOnce 194 = .ok (.pop, 1) := by decide +kernel
theorem dX8_driftOnce_195 : decode cX8_driftOnce 195 = .ok (.return_, 1) := by decide +kernel
theorem dX8_toldLetters_0 : decode cX8_toldLetters 0 = .ok (.iload_n 2, 1) := by decide +kernel
theorem dX8_toldLetters_1 : decode cX8_toldLetters 1 = .ok (.istore 4, 2) := by decide +kernel
theorem dX8_toldLetters_3 : decode cX8_toldLetters 3 = .ok (.iload 4, 2) := by decide +kernel
theorem dX8_toldLetters_5 : decode cX8_toldLetters 5 = .ok (.iload_n 2, 1) := by decide +kernel
theorem dX8_toldLetters_6 : decode cX8_toldLetters 6 = .ok (.iload_n 3, 1) := by decide +kernel
theorem dX8_toldLetters_7 : decode cX8_toldLetters 7 = .ok (.iadd, 1) := by decide +kernel
theorem dX8_toldLetters_8 : decode cX8_toldLetters 8 = .ok (.if_icmp .ge 44, 3) := by decide +kernel
theorem dX8_toldLetters_11 : decode cX8_toldLetters 11 = .ok (.aload_n 1, 1) := by decide +kernel
theorem dX8_toldLetters_12 : decode cX8_toldLetters 12 = .ok (.getfield 280, 3) := by decide +kernel
theorem dX8_toldLetters_15 : decode cX8_toldLetters 15 = .ok (.iload 4, 2) := by decide +kernel
theorem dX8_toldLetters_17 : decode cX8_toldLetters 17 = .ok (.laload, 1) := by decide +kernel
theorem dX8_toldLetters_18 : decode cX8_toldLetters 18 = .ok (.lstore 5, 2) := by decide +kernel
theorem dX8_toldLetters_20 : decode cX8_toldLetters 20 = .ok (.lload 5, 2) := by decide +kernel
theorem dX8_toldLetters_22 : decode cX8_toldLetters 22 = .ok (.lconst 0, 1) := by decide +kernel
theorem dX8_toldLetters_23 : decode cX8_toldLetters 23 = .ok (.lcmp, 1) := by decide +kernel
theorem dX8_toldLetters_24 : decode cX8_toldLetters 24 = .ok (.ifCond .lt 20, 3) := by decide +kernel
theorem dX8_toldLetters_27 : decode cX8_toldLetters 27 = .ok (.lload 5, 2) := by decide +kernel
theorem dX8_toldLetters_29 : decode cX8_toldLetters 29 = .ok (.aload_n 0, 1) := by decide +kernel
theorem dX8_toldLetters_30 : decode cX8_toldLetters 30 = .ok (.getfield 12, 3) := by decide +kernel
theorem dX8_toldLetters_33 : decode cX8_toldLetters 33 = .ok (.getfield 178, 3) := by decide +kernel
theorem dX8_toldLetters_36 : decode cX8_toldLetters 36 = .ok (.getfield 195, 3) := by decide +kernel
theorem dX8_toldLetters_39 : decode cX8_toldLetters 39 = .ok (.i2l, 1) := by decide +kernel
theorem dX8_toldLetters_40 : decode cX8_toldLetters 40 = .ok (.lcmp, 1) := by decide +kernel
theorem dX8_toldLetters_41 : decode cX8_toldLetters 41 = .ok (.ifCond .lt 5, 3) := by decide +kernel
theorem dX8_toldLetters_44 : decode cX8_toldLetters 44 = .ok (.iconst 0, 1) := by decide +kernel
theorem dX8_toldLetters_45 : decode cX8_toldLetters 45 = .ok (.ireturn, 1) := by decide +kernel
theorem dX8_toldLetters_46 : decode cX8_toldLetters 46 = .ok (.iinc 4 1, 3) := by decide +kernel
theorem dX8_toldLetters_49 : decode cX8_toldLetters 49 = .ok (.goto (-46), 3) := by decide +kernel
theorem dX8_toldLetters_52 : decode cX8_toldLetters 52 = .ok (.iconst 1, 1) := by decide +kernel
theorem dX8_toldLetters_53 : decode cX8_toldLetters 53 = .ok (.ireturn, 1) := by decide +kernel
theorem dJ6_numberOfTrailingZeros_0f7a4_0 : decode cJ6_numberOfTrailingZeros_0f7a4 0 = .ok (.iload_n 0, 1) := by decide +kernel
theorem dJ6_numberOfTrailingZeros_0f7a4_1 : decode cJ6_numberOfTrailingZeros_0f7a4 1 = .ok (.iconst (-1), 1) := by decide +kernel
theorem dJ6_numberOfTrailingZeros_0f7a4_2 : decode cJ6_numberOfTrailingZeros_0f7a4 2 = .ok (.ixor, 1) := by decide +kernel
theorem dJ6_numberOfTrailingZeros_0f7a4_3 : decode cJ6_numberOfTrailingZeros_0f7a4 3 = .ok (.iload_n 0, 1) := by decide +kernel
theorem dJ6_numberOfTrailingZeros_0f7a4_4 : decode cJ6_numberOfTrailingZeros_0f7a4 4 = .ok (.iconst 1, 1) := by decide +kernel
theorem dJ6_numberOfTrailingZeros_0f7a4_5 : decode cJ6_numberOfTrailingZeros_0f7a4 5 = .ok (.isub, 1) := by decide +kernel
theorem dJ6_numberOfTrailingZeros_0f7a4_6 : decode cJ6_numberOfTrailingZeros_0f7a4 6 = .ok (.iand, 1) := by decide +kernel
theorem dJ6_numberOfTrailingZeros_0f7a4_7 : decode cJ6_numberOfTrailingZeros_0f7a4 7 = .ok (.istore_n 0, 1) := by decide +kernel
theorem dJ6_numberOfTrailingZeros_0f7a4_8 : decode cJ6_numberOfTrailingZeros_0f7a4 8 = .ok (.iload_n 0, 1) := by decide +kernel
theorem dJ6_numberOfTrailingZeros_0f7a4_9 : decode cJ6_numberOfTrailingZeros_0f7a4 9 = .ok (.ifCond .gt 8, 3) := by decide +kernel
theorem dJ6_numberOfTrailingZeros_0f7a4_12 : decode cJ6_numberOfTrailingZeros_0f7a4 12 = .ok (.iload_n 0, 1) := by decide +kernel
theorem dJ6_numberOfTrailingZeros_0f7a4_13 : decode cJ6_numberOfTrailingZeros_0f7a4 13 = .ok (.bipush 32, 2) := by decide +kernel
theorem dJ6_numberOfTrailingZeros_0f7a4_15 : decode cJ6_numberOfTrailingZeros_0f7a4 15 = .ok (.iand, 1) := by decide +kernel
theorem dJ6_numberOfTrailingZeros_0f7a4_16 : decode cJ6_numberOfTrailingZeros_0f7a4 16 = .ok (.ireturn, 1) := by decide +kernel
theorem dJ6_numberOfTrailingZeros_0f7a4_17 : decode cJ6_numberOfTrailingZeros_0f7a4 17 = .ok (.iconst 1, 1) := by decide +kernel
theorem dJ6_numberOfTrailingZeros_0f7a4_18 : decode cJ6_numberOfTrailingZeros_0f7a4 18 = .ok (.istore_n 1, 1) := by decide +kernel
theorem dJ6_numberOfTrailingZeros_0f7a4_19 : decode cJ6_numberOfTrailingZeros_0f7a4 19 = .ok (.iload_n 0, 1) := by decide +kernel
theorem dJ6_numberOfTrailingZeros_0f7a4_20 : decode cJ6_numberOfTrailingZeros_0f7a4 20 = .ok (.ldc_w 264, 3) := by decide +kernel
theorem dJ6_numberOfTrailingZeros_0f7a4_23 : decode cJ6_numberOfTrailingZeros_0f7a4 23 = .ok (.if_icmp .le 11, 3) := by decide +kernel
theorem dJ6_numberOfTrailingZeros_0f7a4_26 : decode cJ6_numberOfTrailingZeros_0f7a4 26 = .ok (.iinc 1 16, 3) := by decide +kernel
theorem dJ6_numberOfTrailingZeros_0f7a4_29 : decode cJ6_numberOfTrailingZeros_0f7a4 29 = .ok (.iload_n 0, 1) := by decide +kernel
theorem dJ6_numberOfTrailingZeros_0f7a4_30 : decode cJ6_numberOfTrailingZeros_0f7a4 30 = .ok (.bipush 16, 2) := by decide +kernel
theorem dJ6_numberOfTrailingZeros_0f7a4_32 : decode cJ6_numberOfTrailingZeros_0f7a4 32 = .ok (.iushr, 1) := by decide +kernel
theorem dJ6_numberOfTrailingZeros_0f7a4_33 : decode cJ6_numberOfTrailingZeros_0f7a4 33 = .ok (.istore_n 0, 1) := by decide +kernel
theorem dJ6_numberOfTrailingZeros_0f7a4_34 : decode cJ6_numberOfTrailingZeros_0f7a4 34 = .ok (.iload_n 0, 1) := by decide +kernel
theorem dJ6_numberOfTrailingZeros_0f7a4_35 : decode cJ6_numberOfTrailingZeros_0f7a4 35 = .ok (.sipush 256, 3) := by decide +kernel
theorem dJ6_numberOfTrailingZeros_0f7a4_38 : decode cJ6_numberOfTrailingZeros_0f7a4 38 = .ok (.if_icmp .le 11, 3) := by decide +kernel
theorem dJ6_numberOfTrailingZeros_0f7a4_41 : decode cJ6_numberOfTrailingZeros_0f7a4 41 = .ok (.iinc 1 8, 3) := by decide +kernel
theorem dJ6_numberOfTrailingZeros_0f7a4_44 : decode cJ6_numberOfTrailingZeros_0f7a4 44 = .ok (.iload_n 0, 1) := by decide +kernel
theorem dJ6_numberOfTrailingZeros_0f7a4_45 : decode cJ6_numberOfTrailingZeros_0f7a4 45 = .ok (.bipush 8, 2) := by decide +kernel
theorem dJ6_numberOfTrailingZeros_0f7a4_47 : decode cJ6_numberOfTrailingZeros_0f7a4 47 = .ok (.iushr, 1) := by decide +kernel
theorem dJ6_numberOfTrailingZeros_0f7a4_48 : decode cJ6_numberOfTrailingZeros_0f7a4 48 = .ok (.istore_n 0, 1) := by decide +kernel
theorem dJ6_numberOfTrailingZeros_0f7a4_49 : decode cJ6_numberOfTrailingZeros_0f7a4 49 = .ok (.iload_n 0, 1) := by decide +kernel
theorem dJ6_numberOfTrailingZeros_0f7a4_50 : decode cJ6_numberOfTrailingZeros_0f7a4 50 = .ok (.bipush 16, 2) := by decide +kernel
theorem dJ6_numberOfTrailingZeros_0f7a4_52 : decode cJ6_numberOfTrailingZeros_0f7a4 52 = .ok (.if_icmp .le 10, 3) := by decide +kernel
theorem dJ6_numberOfTrailingZeros_0f7a4_55 : decode cJ6_numberOfTrailingZeros_0f7a4 55 = .ok (.iinc 1 4, 3) := by decide +kernel
theorem dJ6_numberOfTrailingZeros_0f7a4_58 : decode cJ6_numberOfTrailingZeros_0f7a4 58 = .ok (.iload_n 0, 1) := by decide +kernel
theorem dJ6_numberOfTrailingZeros_0f7a4_59 : decode cJ6_numberOfTrailingZeros_0f7a4 59 = .ok (.iconst 4, 1) := by decide +kernel
theorem dJ6_numberOfTrailingZeros_0f7a4_60 : decode cJ6_numberOfTrailingZeros_0f7a4 60 = .ok (.iushr, 1) := by decide +kernel
theorem dJ6_numberOfTrailingZeros_0f7a4_61 : decode cJ6_numberOfTrailingZeros_0f7a4 61 = .ok (.istore_n 0, 1) := by decide +kernel
theorem dJ6_numberOfTrailingZeros_0f7a4_62 : decode cJ6_numberOfTrailingZeros_0f7a4 62 = .ok (.iload_n 0, 1) := by decide +kernel
theorem dJ6_numberOfTrailingZeros_0f7a4_63 : decode cJ6_numberOfTrailingZeros_0f7a4 63 = .ok (.iconst 4, 1) := by decide +kernel
theorem dJ6_numberOfTrailingZeros_0f7a4_64 : decode cJ6_numberOfTrailingZeros_0f7a4 64 = .ok (.if_icmp .le 10, 3) := by decide +kernel
theorem dJ6_numberOfTrailingZeros_0f7a4_67 : decode cJ6_numberOfTrailingZeros_0f7a4 67 = .ok (.iinc 1 2, 3) := by decide +kernel
theorem dJ6_numberOfTrailingZeros_0f7a4_70 : decode cJ6_numberOfTrailingZeros_0f7a4 70 = .ok (.iload_n 0, 1) := by decide +kernel
theorem dJ6_numberOfTrailingZeros_0f7a4_71 : decode cJ6_numberOfTrailingZeros_0f7a4 71 = .ok (.iconst 2, 1) := by decide +kernel
theorem dJ6_numberOfTrailingZeros_0f7a4_72 : decode cJ6_numberOfTrailingZeros_0f7a4 72 = .ok (.iushr, 1) := by decide +kernel
theorem dJ6_numberOfTrailingZeros_0f7a4_73 : decode cJ6_numberOfTrailingZeros_0f7a4 73 = .ok (.istore_n 0, 1) := by decide +kernel
theorem dJ6_numberOfTrailingZeros_0f7a4_74 : decode cJ6_numberOfTrailingZeros_0f7a4 74 = .ok (.iload_n 1, 1) := by decide +kernel
theorem dJ6_numberOfTrailingZeros_0f7a4_75 : decode cJ6_numberOfTrailingZeros_0f7a4 75 = .ok (.iload_n 0, 1) := by decide +kernel
theorem dJ6_numberOfTrailingZeros_0f7a4_76 : decode cJ6_numberOfTrailingZeros_0f7a4 76 = .ok (.iconst 1, 1) := by decide +kernel
theorem dJ6_numberOfTrailingZeros_0f7a4_77 : decode cJ6_numberOfTrailingZeros_0f7a4 77 = .ok (.iushr, 1) := by decide +kernel
theorem dJ6_numberOfTrailingZeros_0f7a4_78 : decode cJ6_numberOfTrailingZeros_0f7a4 78 = .ok (.iadd, 1) := by decide +kernel
theorem dJ6_numberOfTrailingZeros_0f7a4_79 : decode cJ6_numberOfTrailingZeros_0f7a4 79 = .ok (.ireturn, 1) := by decide +kernel
theorem dJ6_bitCount_0f7a4_0 : decode cJ6_bitCount_0f7a4 0 = .ok (.iload_n 0, 1) := by decide +kernel
theorem dJ6_bitCount_0f7a4_1 : decode cJ6_bitCount_0f7a4 1 = .ok (.iload_n 0, 1) := by decide +kernel
theorem dJ6_bitCount_0f7a4_2 : decode cJ6_bitCount_0f7a4 2 = .ok (.iconst 1, 1) := by decide +kernel
theorem dJ6_bitCount_0f7a4_3 : decode cJ6_bitCount_0f7a4 3 = .ok (.iushr, 1) := by decide +kernel
theorem dJ6_bitCount_0f7a4_4 : decode cJ6_bitCount_0f7a4 4 = .ok (.ldc_w 265, 3) := by decide +kernel
theorem dJ6_bitCount_0f7a4_7 : decode cJ6_bitCount_0f7a4 7 = .ok (.iand, 1) := by decide +kernel
theorem dJ6_bitCount_0f7a4_8 : decode cJ6_bitCount_0f7a4 8 = .ok (.isub, 1) := by decide +kernel
theorem dJ6_bitCount_0f7a4_9 : decode cJ6_bitCount_0f7a4 9 = .ok (.istore_n 0, 1) := by decide +kernel
theorem dJ6_bitCount_0f7a4_10 : decode cJ6_bitCount_0f7a4 10 = .ok (.iload_n 0, 1) := by decide +kernel
theorem dJ6_bitCount_0f7a4_11 : decode cJ6_bitCount_0f7a4 11 = .ok (.ldc_w 266, 3) := by decide +kernel
theorem dJ6_bitCount_0f7a4_14 : decode cJ6_bitCount_0f7a4 14 = .ok (.iand, 1) := by decide +kernel
theorem dJ6_bitCount_0f7a4_15 : decode cJ6_bitCount_0f7a4 15 = .ok (.iload_n 0, 1) := by decide +kernel
theorem dJ6_bitCount_0f7a4_16 : decode cJ6_bitCount_0f7a4 16 = .ok (.iconst 2, 1) := by decide +kernel
theorem dJ6_bitCount_0f7a4_17 : decode cJ6_bitCount_0f7a4 17 = .ok (.iushr, 1) := by decide +kernel
theorem dJ6_bitCount_0f7a4_18 : decode cJ6_bitCount_0f7a4 18 = .ok (.ldc_w 266, 3) := by decide +kernel
theorem dJ6_bitCount_0f7a4_21 : decode cJ6_bitCount_0f7a4 21 = .ok (.iand, 1) := by decide +kernel
theorem dJ6_bitCount_0f7a4_22 : decode cJ6_bitCount_0f7a4 22 = .ok (.iadd, 1) := by decide +kernel
theorem dJ6_bitCount_0f7a4_23 : decode cJ6_bitCount_0f7a4 23 = .ok (.istore_n 0, 1) := by decide +kernel
theorem dJ6_bitCount_0f7a4_24 : decode cJ6_bitCount_0f7a4 24 = .ok (.iload_n 0, 1) := by decide +kernel
theorem dJ6_bitCount_0f7a4_25 : decode cJ6_bitCount_0f7a4 25 = .ok (.iload_n 0, 1) := by decide +kernel
theorem dJ6_bitCount_0f7a4_26 : decode cJ6_bitCount_0f7a4 26 = .ok (.iconst 4, 1) := by decide +kernel
theorem dJ6_bitCount_0f7a4_27 : decode cJ6_bitCount_0f7a4 27 = .ok (.iushr, 1) := by decide +kernel
theorem dJ6_bitCount_0f7a4_28 : decode cJ6_bitCount_0f7a4 28 = .ok (.iadd, 1) := by decide +kernel
theorem dJ6_bitCount_0f7a4_29 : decode cJ6_bitCount_0f7a4 29 = .ok (.ldc_w 267, 3) := by decide +kernel
theorem dJ6_bitCount_0f7a4_32 : decode cJ6_bitCount_0f7a4 32 = .ok (.iand, 1) := by decide +kernel
theorem dJ6_bitCount_0f7a4_33 : decode cJ6_bitCount_0f7a4 33 = .ok (.istore_n 0, 1) := by decide +kernel
theorem dJ6_bitCount_0f7a4_34 : decode cJ6_bitCount_0f7a4 34 = .ok (.iload_n 0, 1) := by decide +kernel
theorem dJ6_bitCount_0f7a4_35 : decode cJ6_bitCount_0f7a4 35 = .ok (.iload_n 0, 1) := by decide +kernel
theorem dJ6_bitCount_0f7a4_36 : decode cJ6_bitCount_0f7a4 36 = .ok (.bipush 8, 2) := by decide +kernel
theorem dJ6_bitCount_0f7a4_38 : decode cJ6_bitCount_0f7a4 38 = .ok (.iushr, 1) := by decide +kernel
theorem dJ6_bitCount_0f7a4_39 : decode cJ6_bitCount_0f7a4 39 = .ok (.iadd, 1) := by decide +kernel
theorem dJ6_bitCount_0f7a4_40 : decode cJ6_bitCount_0f7a4 40 = .ok (.istore_n 0, 1) := by decide +kernel
theorem dJ6_bitCount_0f7a4_41 : decode cJ6_bitCount_0f7a4 41 = .ok (.iload_n 0, 1) := by decide +kernel
theorem dJ6_bitCount_0f7a4_42 : decode cJ6_bitCount_0f7a4 42 = .ok (.iload_n 0, 1) := by decide +kernel
theorem dJ6_bitCount_0f7a4_43 : decode cJ6_bitCount_0f7a4 43 = .ok (.bipush 16, 2) := by decide +kernel
theorem dJ6_bitCount_0f7a4_45 : decode cJ6_bitCount_0f7a4 45 = .ok (.iushr, 1) := by decide +kernel
theorem dJ6_bitCount_0f7a4_46 : decode cJ6_bitCount_0f7a4 46 = .ok (.iadd, 1) := by decide +kernel
theorem dJ6_bitCount_0f7a4_47 : decode cJ6_bitCount_0f7a4 47 = .ok (.istore_n 0, 1) := by decide +kernel
theorem dJ6_bitCount_0f7a4_48 : decode cJ6_bitCount_0f7a4 48 = .ok (.iload_n 0, 1) := by decide +kernel
theorem dJ6_bitCount_0f7a4_49 : decode cJ6_bitCount_0f7a4 49 = .ok (.bipush 63, 2) := by decide +kernel
theorem dJ6_bitCount_0f7a4_51 : decode cJ6_bitCount_0f7a4 51 = .ok (.iand, 1) := by decide +kernel
theorem dJ6_bitCount_0f7a4_52 : decode cJ6_bitCount_0f7a4 52 = .ok (.ireturn, 1) := by decide +kernel
theorem dJ9_min_7cf53_0 : decode cJ9_min_7cf53 0 = .ok (.iload_n 0, 1) := by decide +kernel
theorem dJ9_min_7cf53_1 : decode cJ9_min_7cf53 1 = .ok (.iload_n 1, 1) := by decide +kernel
theorem dJ9_min_7cf53_2 : decode cJ9_min_7cf53 2 = .ok (.if_icmp .gt 7, 3) := by decide +kernel
theorem dJ9_min_7cf53_5 : decode cJ9_min_7cf53 5 = .ok (.iload_n 0, 1) := by decide +kernel
theorem dJ9_min_7cf53_6 : decode cJ9_min_7cf53 6 = .ok (.goto 4, 3) := by decide +kernel
theorem dJ9_min_7cf53_9 : decode cJ9_min_7cf53 9 = .ok (.iload_n 1, 1) := by decide +kernel
theorem dJ9_min_7cf53_10 : decode cJ9_min_7cf53 10 = .ok (.ireturn, 1) := by decide +kernel
theorem dJ7_fill_d0a16_0 : decode cJ7_fill_d0a16 0 = .ok (.iconst 0, 1) := by decide +kernel
theorem dJ7_fill_d0a16_1 : decode cJ7_fill_d0a16 1 = .ok (.istore_n 3, 1) := by decide +kernel
theorem dJ7_fill_d0a16_2 : decode cJ7_fill_d0a16 2 = .ok (.aload_n 0, 1) := by decide +kernel
theorem dJ7_fill_d0a16_3 : decode cJ7_fill_d0a16 3 = .ok (.arraylength, 1) := by decide +kernel
theorem dJ7_fill_d0a16_4 : decode cJ7_fill_d0a16 4 = .ok (.istore 4, 2) := by decide +kernel
theorem dJ7_fill_d0a16_6 : decode cJ7_fill_d0a16 6 = .ok (.iload_n 3, 1) := by decide +kernel
theorem dJ7_fill_d0a16_7 : decode cJ7_fill_d0a16 7 = .ok (.iload 4, 2) := by decide +kernel
theorem dJ7_fill_d0a16_9 : decode cJ7_fill_d0a16 9 = .ok (.if_icmp .ge 13, 3) := by decide +kernel
theorem dJ7_fill_d0a16_12 : decode cJ7_fill_d0a16 12 = .ok (.aload_n 0, 1) := by decide +kernel
theorem dJ7_fill_d0a16_13 : decode cJ7_fill_d0a16 13 = .ok (.iload_n 3, 1) := by decide +kernel
theorem dJ7_fill_d0a16_14 : decode cJ7_fill_d0a16 14 = .ok (.lload_n 1, 1) := by decide +kernel
theorem dJ7_fill_d0a16_15 : decode cJ7_fill_d0a16 15 = .ok (.lastore, 1) := by decide +kernel
theorem dJ7_fill_d0a16_16 : decode cJ7_fill_d0a16 16 = .ok (.iinc 3 1, 3) := by decide +kernel
theorem dJ7_fill_d0a16_19 : decode cJ7_fill_d0a16 19 = .ok (.goto (-13), 3) := by decide +kernel
theorem dJ7_fill_d0a16_22 : decode cJ7_fill_d0a16 22 = .ok (.return_, 1) := by decide +kernel
theorem dJ7_fill_53178_0 : decode cJ7_fill_53178 0 = .ok (.iconst 0, 1) := by decide +kernel
theorem dJ7_fill_53178_1 : decode cJ7_fill_53178 1 = .ok (.istore_n 2, 1) := by decide +kernel
theorem dJ7_fill_53178_2 : decode cJ7_fill_53178 2 = .ok (.aload_n 0, 1) := by decide +kernel
theorem dJ7_fill_53178_3 : decode cJ7_fill_53178 3 = .ok (.arraylength, 1) := by decide +kernel
theorem dJ7_fill_53178_4 : decode cJ7_fill_53178 4 = .ok (.istore_n 3, 1) := by decide +kernel
theorem dJ7_fill_53178_5 : decode cJ7_fill_53178 5 = .ok (.iload_n 2, 1) := by decide +kernel
theorem dJ7_fill_53178_6 : decode cJ7_fill_53178 6 = .ok (.iload_n 3, 1) := by decide +kernel
theorem dJ7_fill_53178_7 : decode cJ7_fill_53178 7 = .ok (.if_icmp .ge 13, 3) := by decide +kernel
theorem dJ7_fill_53178_10 : decode cJ7_fill_53178 10 = .ok (.aload_n 0, 1) := by decide +kernel
theorem dJ7_fill_53178_11 : decode cJ7_fill_53178 11 = .ok (.iload_n 2, 1) := by decide +kernel
theorem dJ7_fill_53178_12 : decode cJ7_fill_53178 12 = .ok (.iload_n 1, 1) := by decide +kernel
theorem dJ7_fill_53178_13 : decode cJ7_fill_53178 13 = .ok (.iastore, 1) := by decide +kernel
theorem dJ7_fill_53178_14 : decode cJ7_fill_53178 14 = .ok (.iinc 2 1, 3) := by decide +kernel
theorem dJ7_fill_53178_17 : decode cJ7_fill_53178 17 = .ok (.goto (-12), 3) := by decide +kernel
theorem dJ7_fill_53178_20 : decode cJ7_fill_53178 20 = .ok (.return_, 1) := by decide +kernel
theorem dL_cell_0 : decode cL_cell 0 = .ok (.iload_n 1, 1) := by decide +kernel
theorem dL_cell_1 : decode cL_cell 1 = .ok (.aload_n 0, 1) := by decide +kernel
theorem dL_cell_2 : decode cL_cell 2 = .ok (.arraylength, 1) := by decide +kernel
theorem dL_cell_3 : decode cL_cell 3 = .ok (.if_icmp .ge 9, 3) := by decide +kernel
theorem dL_cell_6 : decode cL_cell 6 = .ok (.aload_n 0, 1) := by decide +kernel
theorem dL_cell_7 : decode cL_cell 7 = .ok (.iload_n 1, 1) := by decide +kernel
theorem dL_cell_8 : decode cL_cell 8 = .ok (.iaload, 1) := by decide +kernel
theorem dL_cell_9 : decode cL_cell 9 = .ok (.goto 10, 3) := by decide +kernel
theorem dL_cell_12 : decode cL_cell 12 = .ok (.ldc 7, 2) := by decide +kernel
theorem dL_cell_14 : decode cL_cell 14 = .ok (.iload_n 1, 1) := by decide +kernel
theorem dL_cell_15 : decode cL_cell 15 = .ok (.imul, 1) := by decide +kernel
theorem dL_cell_16 : decode cL_cell 16 = .ok (.bipush 107, 2) := by decide +kernel
theorem dL_cell_18 : decode cL_cell 18 = .ok (.iadd, 1) := by decide +kernel
theorem dL_cell_19 : decode cL_cell 19 = .ok (.ldc 8, 2) := by decide +kernel
theorem dL_cell_21 : decode cL_cell 21 = .ok (.iand, 1) := by decide +kernel
theorem dL_cell_22 : decode cL_cell 22 = .ok (.ireturn, 1) := by decide +kernel
theorem dL_has_0 : decode cL_has 0 = .ok (.iload_n 0, 1) := by decide +kernel
theorem dL_has_1 : decode cL_has 1 = .ok (.iload_n 1, 1) := by decide +kernel
theorem dL_has_2 : decode cL_has 2 = .ok (.ishr, 1) := by decide +kernel
theorem dL_has_3 : decode cL_has 3 = .ok (.iconst 1, 1) := by decide +kernel
theorem dL_has_4 : decode cL_has 4 = .ok (.iand, 1) := by decide +kernel
theorem dL_has_5 : decode cL_has 5 = .ok (.iconst 1, 1) := by decide +kernel
theorem dL_has_6 : decode cL_has 6 = .ok (.if_icmp .ne 7, 3) := by decide +kernel
theorem dL_has_9 : decode cL_has 9 = .ok (.iconst 1, 1) := by decide +kernel
theorem dL_has_10 : decode cL_has 10 = .ok (.goto 4, 3) := by decide +kernel
theorem dL_has_13 : decode cL_has 13 = .ok (.iconst 0, 1) := by decide +kernel
theorem dL_has_14 : decode cL_has 14 = .ok (.ireturn, 1) := by decide +kernel
theorem dL_bits_0 : decode cL_bits 0 = .ok (.iconst 0, 1) := by decide +kernel
theorem dL_bits_1 : decode cL_bits 1 = .ok (.istore_n 1, 1) := by decide +kernel
theorem dL_bits_2 : decode cL_bits 2 = .ok (.iload_n 0, 1) := by decide +kernel
theorem dL_bits_3 : decode cL_bits 3 = .ok (.istore_n 2, 1) := by decide +kernel
theorem dL_bits_4 : decode cL_bits 4 = .ok (.iload_n 2, 1) := by decide +kernel
theorem dL_bits_5 : decode cL_bits 5 = .ok (.ifCond .eq 15, 3) := by decide +kernel
theorem dL_bits_8 : decode cL_bits 8 = .ok (.iinc 1 1, 3) := by decide +kernel
theorem dL_bits_11 : decode cL_bits 11 = .ok (.iload_n 2, 1) := by decide +kernel
theorem dL_bits_12 : decode cL_bits 12 = .ok (.iload_n 2, 1) := by decide +kernel
theorem dL_bits_13 : decode cL_bits 13 = .ok (.iconst 1, 1) := by decide +kernel
theorem dL_bits_14 : decode cL_bits 14 = .ok (.isub, 1) := by decide +kernel
theorem dL_bits_15 : decode cL_bits 15 = .ok (.iand, 1) := by decide +kernel
theorem dL_bits_16 : decode cL_bits 16 = .ok (.istore_n 2, 1) := by decide +kernel
theorem dL_bits_17 : decode cL_bits 17 = .ok (.goto (-13), 3) := by decide +kernel
theorem dL_bits_20 : decode cL_bits 20 = .ok (.iload_n 1, 1) := by decide +kernel
theorem dL_bits_21 : decode cL_bits 21 = .ok (.ireturn, 1) := by decide +kernel
theorem dL_law_0 : decode cL_law 0 = .ok (.new 9, 3) := by decide +kernel
theorem dL_law_3 : decode cL_law 3 = .ok (.dup, 1) := by decide +kernel
theorem dL_law_4 : decode cL_law 4 = .ok (.invokespecial 11, 3) := by decide +kernel
theorem dL_law_7 : decode cL_law 7 = .ok (.astore_n 1, 1) := by decide +kernel
theorem dL_law_8 : decode cL_law 8 = .ok (.aload_n 1, 1) := by decide +kernel
theorem dL_law_9 : decode cL_law 9 = .ok (.aload_n 0, 1) := by decide +kernel
theorem dL_law_10 : decode cL_law 10 = .ok (.invokestatic 12, 3) := by decide +kernel
theorem dL_law_13 : decode cL_law 13 = .ok (.ifCond .eq 14, 3) := by decide +kernel
theorem dL_law_16 : decode cL_law 16 = .ok (.aload_n 1, 1) := by decide +kernel
theorem dL_law_17 : decode cL_law 17 = .ok (.invokevirtual 18, 3) := by decide +kernel
theorem dL_law_20 : decode cL_law 20 = .ok (.ifCond .le 7, 3) := by decide +kernel
theorem dL_law_23 : decode cL_law 23 = .ok (.iconst 1, 1) := by decide +kernel
theorem dL_law_24 : decode cL_law 24 = .ok (.goto 4, 3) := by decide +kernel
theorem dL_law_27 : decode cL_law 27 = .ok (.iconst 0, 1) := by decide +kernel
theorem dL_law_28 : decode cL_law 28 = .ok (.istore_n 2, 1) := by decide +kernel
theorem dL_law_29 : decode cL_law 29 = .ok (.iconst 0, 1) := by decide +kernel
theorem dL_law_30 : decode cL_law 30 = .ok (.istore_n 3, 1) := by decide +kernel
theorem dL_law_31 : decode cL_law 31 = .ok (.iconst 0, 1) := by decide +kernel
theorem dL_law_32 : decode cL_law 32 = .ok (.istore 4, 2) := by decide +kernel
theorem dL_law_34 : decode cL_law 34 = .ok (.iload 4, 2) := by decide +kernel
theorem dL_law_36 : decode cL_law 36 = .ok (.bipush 12, 2) := by decide +kernel
theorem dL_law_38 : decode cL_law 38 = .ok (.if_icmp .ge 71, 3) := by decide +kernel
theorem dL_law_41 : decode cL_law 41 = .ok (.iload_n 2, 1) := by decide +kernel
theorem dL_law_42 : decode cL_law 42 = .ok (.ifCond .eq 67, 3) := by decide +kernel
theorem dL_law_45 : decode cL_law 45 = .ok (.aload_n 0, 1) := by decide +kernel
theorem dL_law_46 : decode cL_law 46 = .ok (.iload 4, 2) := by decide +kernel
theorem dL_law_48 : decode cL_law 48 = .ok (.invokestatic 22, 3) := by decide +kernel
theorem dL_law_51 : decode cL_law 51 = .ok (.istore 5, 2) := by decide +kernel
theorem dL_law_53 : decode cL_law 53 = .ok (.aload_n 1, 1) := by decide +kernel
theorem dL_law_54 : decode cL_law 54 = .ok (.iload 5, 2) := by decide +kernel
theorem dL_law_56 : decode cL_law 56 = .ok (.invokestatic 26, 3) := by decide +kernel
theorem dL_law_59 : decode cL_law 59 = .ok (.ifCond .eq 22, 3) := by decide +kernel
theorem dL_law_62 : decode cL_law 62 = .ok (.aload_n 1, 1) := by decide +kernel
theorem dL_law_63 : decode cL_law 63 = .ok (.invokestatic 30, 3) := by decide +kernel
theorem dL_law_66 : decode cL_law 66 = .ok (.ifCond .eq 15, 3) := by decide +kernel
theorem dL_law_69 : decode cL_law 69 = .ok (.aload_n 1, 1) := by decide +kernel
theorem dL_law_70 : decode cL_law 70 = .ok (.iload_n 3, 1) := by decide +kernel
theorem dL_law_71 : decode cL_law 71 = .ok (.invokestatic 34, 3) := by decide +kernel
theorem dL_law_74 : decode cL_law 74 = .ok (.ifCond .eq 7, 3) := by decide +kernel
theorem dL_law_77 : decode cL_law 77 = .ok (.iconst 1, 1) := by decide +kernel
theorem dL_law_78 : decode cL_law 78 = .ok (.goto 4, 3) := by decide +kernel
theorem dL_law_81 : decode cL_law 81 = .ok (.iconst 0, 1) := by decide +kernel
theorem dL_law_82 : decode cL_law 82 = .ok (.istore_n 2, 1) := by decide +kernel
theorem dL_law_83 : decode cL_law 83 = .ok (.aload_n 1, 1) := by decide +kernel
theorem dL_law_84 : decode cL_law 84 = .ok (.iconst 4, 1) := by decide +kernel
theorem dL_law_85 : decode cL_law 85 = .ok (.invokevirtual 37, 3) := by decide +kernel
theorem dL_law_88 : decode cL_law 88 = .ok (.ifCond .ne 7, 3) := by decide +kernel
theorem dL_law_91 : decode cL_law 91 = .ok (.iconst 0, 1) := by decide +kernel
theorem dL_law_92 : decode cL_law 92 = .ok (.goto 10, 3) := by decide +kernel
theorem dL_law_95 : decode cL_law 95 = .ok (.iload_n 3, 1) := by decide +kernel
theorem dL_law_96 : decode cL_law 96 = .ok (.aload_n 1, 1) := by decide +kernel
theorem dL_law_97 : decode cL_law 97 = .ok (.iconst 0, 1) := by decide +kernel
theorem dL_law_98 : decode cL_law 98 = .ok (.invokevirtual 37, 3) := by decide +kernel
theorem dL_law_101 : decode cL_law 101 = .ok (.ior, 1) := by decide +kernel
theorem dL_law_102 : decode cL_law 102 = .ok (.istore_n 3, 1) := by decide +kernel
theorem dL_law_103 : decode cL_law 103 = .ok (.iinc 4 1, 3) := by decide +kernel
theorem dL_law_106 : decode cL_law 106 = .ok (.goto (-72), 3) := by decide +kernel
theorem dL_law_109 : decode cL_law 109 = .ok (.iload_n 2, 1) := by decide +kernel
theorem dL_law_110 : decode cL_law 110 = .ok (.ifCond .eq 40, 3) := by decide +kernel
theorem dL_law_113 : decode cL_law 113 = .ok (.aload_n 1, 1) := by decide +kernel
theorem dL_law_114 : decode cL_law 114 = .ok (.aload_n 0, 1) := by decide +kernel
theorem dL_law_115 : decode cL_law 115 = .ok (.bipush 12, 2) := by decide +kernel
theorem dL_law_117 : decode cL_law 117 = .ok (.invokestatic 22, 3) := by decide +kernel
theorem dL_law_120 : decode cL_law 120 = .ok (.invokestatic 41, 3) := by decide +kernel
