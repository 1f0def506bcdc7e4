theorem dX8_due_9 : decode cX8_due 9 = .ok (.iconst (-1), 1) := by decide +kernel
theorem dX8_due_10 : decode cX8_due 10 = .ok (.ireturn, 1) := by decide +kernel
theorem dX8_due_11 : decode cX8_due 11 = .ok (.aload_n 0, 1) := by decide +kernel
theorem dX8_due_12 : decode cX8_due 12 = .ok (.getfield 45, 3) := by decide +kernel
theorem dX8_due_15 : decode cX8_due 15 = .ok (.aload_n 0, 1) := by decide +kernel
theorem dX8_due_16 : decode cX8_due 16 = .ok (.getfield 12, 3) := by decide +kernel
theorem dX8_due_19 : decode cX8_due 19 = .ok (.getfield 132, 3) := by decide +kernel
theorem dX8_due_22 : decode cX8_due 22 = .ok (.invokevirtual 217, 3) := by decide +kernel
theorem dX8_due_25 : decode cX8_due 25 = .ok (.iload_n 1, 1) := by decide +kernel
theorem dX8_due_26 : decode cX8_due 26 = .ok (.ifCond .ne 32, 3) := by decide +kernel
theorem dX8_due_29 : decode cX8_due 29 = .ok (.aload_n 0, 1) := by decide +kernel
theorem dX8_due_30 : decode cX8_due 30 = .ok (.getfield 45, 3) := by decide +kernel
theorem dX8_due_33 : decode cX8_due 33 = .ok (.aload_n 0, 1) := by decide +kernel
theorem dX8_due_34 : decode cX8_due 34 = .ok (.getfield 45, 3) := by decide +kernel
theorem dX8_due_37 : decode cX8_due 37 = .ok (.aload_n 0, 1) := by decide +kernel
theorem dX8_due_38 : decode cX8_due 38 = .ok (.getfield 12, 3) := by decide +kernel
theorem dX8_due_41 : decode cX8_due 41 = .ok (.getfield 88, 3) := by decide +kernel
theorem dX8_due_44 : decode cX8_due 44 = .ok (.aload_n 0, 1) := by decide +kernel
theorem dX8_due_45 : decode cX8_due 45 = .ok (.getfield 12, 3) := by decide +kernel
theorem dX8_due_48 : decode cX8_due 48 = .ok (.getfield 72, 3) := by decide +kernel
theorem dX8_due_51 : decode cX8_due 51 = .ok (.invokevirtual 220, 3) := by decide +kernel
theorem dX8_due_54 : decode cX8_due 54 = .ok (.invokevirtual 223, 3) := by decide +kernel
theorem dX8_due_57 : decode cX8_due 57 = .ok (.ireturn, 1) := by decide +kernel
theorem dX8_due_58 : decode cX8_due 58 = .ok (.aload_n 0, 1) := by decide +kernel
theorem dX8_due_59 : decode cX8_due 59 = .ok (.invokevirtual 226, 3) := by decide +kernel
theorem dX8_due_62 : decode cX8_due 62 = .ok (.ireturn, 1) := by decide +kernel
theorem dX8_luck_0 : decode cX8_luck 0 = .ok (.iload_n 1, 1) := by decide +kernel
theorem dX8_luck_1 : decode cX8_luck 1 = .ok (.invokestatic 57, 3) := by decide +kernel
theorem dX8_luck_4 : decode cX8_luck 4 = .ok (.ifCond .ne 22, 3) := by decide +kernel
theorem dX8_luck_7 : decode cX8_luck 7 = .ok (.iload_n 2, 1) := by decide +kernel
theorem dX8_luck_8 : decode cX8_luck 8 = .ok (.ifCond .lt 18, 3) := by decide +kernel
theorem dX8_luck_11 : decode cX8_luck 11 = .ok (.iload_n 2, 1) := by decide +kernel
theorem dX8_luck_12 : decode cX8_luck 12 = .ok (.bipush 10, 2) := by decide +kernel
theorem dX8_luck_14 : decode cX8_luck 14 = .ok (.if_icmp .gt 12, 3) := by decide +kernel
theorem dX8_luck_17 : decode cX8_luck 17 = .ok (.iload_n 3, 1) := by decide +kernel
theorem dX8_luck_18 : decode cX8_luck 18 = .ok (.ifCond .lt 8, 3) := by decide +kernel
theorem dX8_luck_21 : decode cX8_luck 21 = .ok (.iload_n 3, 1) := by decide +kernel
theorem dX8_luck_22 : decode cX8_luck 22 = .ok (.iconst 1, 1) := by decide +kernel
theorem dX8_luck_23 : decode cX8_luck 23 = .ok (.if_icmp .le 5, 3) := by decide +kernel
theorem dX8_luck_26 : decode cX8_luck 26 = .ok (.iconst (-1), 1) := by decide +kernel
theorem dX8_luck_27 : decode cX8_luck 27 = .ok (.ireturn, 1) := by decide +kernel
theorem dX8_luck_28 : decode cX8_luck 28 = .ok (.aload_n 0, 1) := by decide +kernel
theorem dX8_luck_29 : decode cX8_luck 29 = .ok (.getfield 12, 3) := by decide +kernel
theorem dX8_luck_32 : decode cX8_luck 32 = .ok (.getfield 132, 3) := by decide +kernel
theorem dX8_luck_35 : decode cX8_luck 35 = .ok (.iload_n 1, 1) := by decide +kernel
theorem dX8_luck_36 : decode cX8_luck 36 = .ok (.invokevirtual 135, 3) := by decide +kernel
theorem dX8_luck_39 : decode cX8_luck 39 = .ok (.ifCond .ne 6, 3) := by decide +kernel
theorem dX8_luck_42 : decode cX8_luck 42 = .ok (.bipush (-2), 2) := by decide +kernel
theorem dX8_luck_44 : decode cX8_luck 44 = .ok (.ireturn, 1) := by decide +kernel
theorem dX8_luck_45 : decode cX8_luck 45 = .ok (.iload_n 3, 1) := by decide +kernel
theorem dX8_luck_46 : decode cX8_luck 46 = .ok (.ifCond .ne 10, 3) := by decide +kernel
theorem dX8_luck_49 : decode cX8_luck 49 = .ok (.bipush 10, 2) := by decide +kernel
theorem dX8_luck_51 : decode cX8_luck 51 = .ok (.iload_n 2, 1) := by decide +kernel
theorem dX8_luck_52 : decode cX8_luck 52 = .ok (.isub, 1) := by decide +kernel
theorem dX8_luck_53 : decode cX8_luck 53 = .ok (.goto 5, 3) := by decide +kernel
theorem dX8_luck_56 : decode cX8_luck 56 = .ok (.bipush 10, 2) := by decide +kernel
theorem dX8_luck_58 : decode cX8_luck 58 = .ok (.istore 4, 2) := by decide +kernel
theorem dX8_luck_60 : decode cX8_luck 60 = .ok (.iload 4, 2) := by decide +kernel
theorem dX8_luck_62 : decode cX8_luck 62 = .ok (.bipush 10, 2) := by decide +kernel
theorem dX8_luck_64 : decode cX8_luck 64 = .ok (.iload_n 2, 1) := by decide +kernel
theorem dX8_luck_65 : decode cX8_luck 65 = .ok (.isub, 1) := by decide +kernel
theorem dX8_luck_66 : decode cX8_luck 66 = .ok (.invokestatic 229, 3) := by decide +kernel
theorem dX8_luck_69 : decode cX8_luck 69 = .ok (.idiv, 1) := by decide +kernel
theorem dX8_luck_70 : decode cX8_luck 70 = .ok (.istore 5, 2) := by decide +kernel
theorem dX8_luck_72 : decode cX8_luck 72 = .ok (.iconst 1, 1) := by decide +kernel
theorem dX8_luck_73 : decode cX8_luck 73 = .ok (.istore 6, 2) := by decide +kernel
theorem dX8_luck_75 : decode cX8_luck 75 = .ok (.aload_n 0, 1) := by decide +kernel
theorem dX8_luck_76 : decode cX8_luck 76 = .ok (.getfield 12, 3) := by decide +kernel
theorem dX8_luck_79 : decode cX8_luck 79 = .ok (.iload_n 1, 1) := by decide +kernel
theorem dX8_luck_80 : decode cX8_luck 80 = .ok (.invokevirtual 232, 3) := by decide +kernel
theorem dX8_luck_83 : decode cX8_luck 83 = .ok (.istore 7, 2) := by decide +kernel
theorem dX8_luck_85 : decode cX8_luck 85 = .ok (.iload 7, 2) := by decide +kernel
theorem dX8_luck_87 : decode cX8_luck 87 = .ok (.ifCond .le 16, 3) := by decide +kernel
theorem dX8_luck_90 : decode cX8_luck 90 = .ok (.iload 6, 2) := by decide +kernel
theorem dX8_luck_92 : decode cX8_luck 92 = .ok (.iload 5, 2) := by decide +kernel
theorem dX8_luck_94 : decode cX8_luck 94 = .ok (.imul, 1) := by decide +kernel
theorem dX8_luck_95 : decode cX8_luck 95 = .ok (.istore 6, 2) := by decide +kernel
theorem dX8_luck_97 : decode cX8_luck 97 = .ok (.iinc 7 (-1), 3) := by decide +kernel
theorem dX8_luck_100 : decode cX8_luck 100 = .ok (.goto (-15), 3) := by decide +kernel
theorem dX8_luck_103 : decode cX8_luck 103 = .ok (.iload 6, 2) := by decide +kernel
theorem dX8_luck_105 : decode cX8_luck 105 = .ok (.ireturn, 1) := by decide +kernel
theorem dX8_type_0 : decode cX8_type 0 = .ok (.iload_n 1, 1) := by decide +kernel
theorem dX8_type_1 : decode cX8_type 1 = .ok (.bipush 32, 2) := by decide +kernel
theorem dX8_type_3 : decode cX8_type 3 = .ok (.if_icmp .lt 9, 3) := by decide +kernel
theorem dX8_type_6 : decode cX8_type 6 = .ok (.iload_n 1, 1) := by decide +kernel
theorem dX8_type_7 : decode cX8_type 7 = .ok (.bipush 126, 2) := by decide +kernel
theorem dX8_type_9 : decode cX8_type 9 = .ok (.if_icmp .le 5, 3) := by decide +kernel
theorem dX8_type_12 : decode cX8_type 12 = .ok (.iconst (-1), 1) := by decide +kernel
theorem dX8_type_13 : decode cX8_type 13 = .ok (.ireturn, 1) := by decide +kernel
theorem dX8_type_14 : decode cX8_type 14 = .ok (.aload_n 0, 1) := by decide +kernel
theorem dX8_type_15 : decode cX8_type 15 = .ok (.getfield 32, 3) := by decide +kernel
theorem dX8_type_18 : decode cX8_type 18 = .ok (.getfield 235, 3) := by decide +kernel
theorem dX8_type_21 : decode cX8_type 21 = .ok (.bipush 90, 2) := by decide +kernel
theorem dX8_type_23 : decode cX8_type 23 = .ok (.if_icmp .lt 6, 3) := by decide +kernel
theorem dX8_type_26 : decode cX8_type 26 = .ok (.bipush (-3), 2) := by decide +kernel
theorem dX8_type_28 : decode cX8_type 28 = .ok (.ireturn, 1) := by decide +kernel
theorem dX8_type_29 : decode cX8_type 29 = .ok (.aload_n 0, 1) := by decide +kernel
theorem dX8_type_30 : decode cX8_type 30 = .ok (.getfield 32, 3) := by decide +kernel
theorem dX8_type_33 : decode cX8_type 33 = .ok (.iload_n 1, 1) := by decide +kernel
theorem dX8_type_34 : decode cX8_type 34 = .ok (.i2c, 1) := by decide +kernel
theorem dX8_type_35 : decode cX8_type 35 = .ok (.invokevirtual 238, 3) := by decide +kernel
theorem dX8_type_38 : decode cX8_type 38 = .ok (.aload_n 0, 1) := by decide +kernel
theorem dX8_type_39 : decode cX8_type 39 = .ok (.getfield 32, 3) := by decide +kernel
theorem dX8_type_42 : decode cX8_type 42 = .ok (.getfield 235, 3) := by decide +kernel
theorem dX8_type_45 : decode cX8_type 45 = .ok (.ireturn, 1) := by decide +kernel
theorem dX8_read_0 : decode cX8_read 0 = .ok (.aload_n 0, 1) := by decide +kernel
theorem dX8_read_1 : decode cX8_read 1 = .ok (.getfield 32, 3) := by decide +kernel
theorem dX8_read_4 : decode cX8_read 4 = .ok (.invokevirtual 242, 3) := by decide +kernel
theorem dX8_read_7 : decode cX8_read 7 = .ok (.istore_n 1, 1) := by decide +kernel
theorem dX8_read_8 : decode cX8_read 8 = .ok (.iload_n 1, 1) := by decide +kernel
theorem dX8_read_9 : decode cX8_read 9 = .ok (.iconst (-1), 1) := by decide +kernel
theorem dX8_read_10 : decode cX8_read 10 = .ok (.if_icmp .ne 22, 3) := by decide +kernel
theorem dX8_read_13 : decode cX8_read 13 = .ok (.aload_n 0, 1) := by decide +kernel
theorem dX8_read_14 : decode cX8_read 14 = .ok (.getfield 19, 3) := by decide +kernel
theorem dX8_read_17 : decode cX8_read 17 = .ok (.aload_n 0, 1) := by decide +kernel
theorem dX8_read_18 : decode cX8_read 18 = .ok (.getfield 12, 3) := by decide +kernel
theorem dX8_read_21 : decode cX8_read 21 = .ok (.invokevirtual 64, 3) := by decide +kernel
theorem dX8_read_24 : decode cX8_read 24 = .ok (.aload_n 0, 1) := by decide +kernel
theorem dX8_read_25 : decode cX8_read 25 = .ok (.invokevirtual 245, 3) := by decide +kernel
theorem dX8_read_28 : decode cX8_read 28 = .ok (.istore_n 2, 1) := by decide +kernel
theorem dX8_read_29 : decode cX8_read 29 = .ok (.goto 8, 3) := by decide +kernel
theorem dX8_read_32 : decode cX8_read 32 = .ok (.bipush (-20), 2) := by decide +kernel
theorem dX8_read_34 : decode cX8_read 34 = .ok (.iload_n 1, 1) := by decide +kernel
theorem dX8_read_35 : decode cX8_read 35 = .ok (.isub, 1) := by decide +kernel
theorem dX8_read_36 : decode cX8_read 36 = .ok (.istore_n 2, 1) := by decide +kernel
theorem dX8_read_37 : decode cX8_read 37 = .ok (.aload_n 0, 1) := by decide +kernel
theorem dX8_read_38 : decode cX8_read 38 = .ok (.getfield 32, 3) := by decide +kernel
theorem dX8_read_41 : decode cX8_read 41 = .ok (.iconst 0, 1) := by decide +kernel
theorem dX8_read_42 : decode cX8_read 42 = .ok (.putfield 235, 3) := by decide +kernel
theorem dX8_read_45 : decode cX8_read 45 = .ok (.iload_n 2, 1) := by decide +kernel
theorem dX8_read_46 : decode cX8_read 46 = .ok (.ireturn, 1) := by decide +kernel
theorem dX8_drift_0 : decode cX8_drift 0 = .ok (.iload_n 1, 1) := by decide +kernel
theorem dX8_drift_1 : decode cX8_drift 1 = .ok (.iconst 1, 1) := by decide +kernel
theorem dX8_drift_2 : decode cX8_drift 2 = .ok (.if_icmp .lt 9, 3) := by decide +kernel
theorem dX8_drift_5 : decode cX8_drift 5 = .ok (.iload_n 1, 1) := by decide +kernel
theorem dX8_drift_6 : decode cX8_drift 6 = .ok (.bipush 40, 2) := by decide +kernel
theorem dX8_drift_8 : decode cX8_drift 8 = .ok (.if_icmp .le 5, 3) := by decide +kernel
theorem dX8_drift_11 : decode cX8_drift 11 = .ok (.iconst (-1), 1) := by decide +kernel
theorem dX8_drift_12 : decode cX8_drift 12 = .ok (.ireturn, 1) := by decide +kernel
theorem dX8_drift_13 : decode cX8_drift 13 = .ok (.iconst 0, 1) := by decide +kernel
theorem dX8_drift_14 : decode cX8_drift 14 = .ok (.istore_n 2, 1) := by decide +kernel
theorem dX8_drift_15 : decode cX8_drift 15 = .ok (.iload_n 2, 1) := by decide +kernel
theorem dX8_drift_16 : decode cX8_drift 16 = .ok (.iload_n 1, 1) := by decide +kernel
theorem dX8_drift_17 : decode cX8_drift 17 = .ok (.if_icmp .ge 24, 3) := by decide +kernel
theorem dX8_drift_20 : decode cX8_drift 20 = .ok (.aload_n 0, 1) := by decide +kernel
theorem dX8_drift_21 : decode cX8_drift 21 = .ok (.getfield 19, 3) := by decide +kernel
theorem dX8_drift_24 : decode cX8_drift 24 = .ok (.aload_n 0, 1) := by decide +kernel
theorem dX8_drift_25 : decode cX8_drift 25 = .ok (.getfield 12, 3) := by decide +kernel
theorem dX8_drift_28 : decode cX8_drift 28 = .ok (.invokevirtual 64, 3) := by decide +kernel
theorem dX8_drift_31 : decode cX8_drift 31 = .ok (.aload_n 0, 1) := by decide +kernel
theorem dX8_drift_32 : decode cX8_drift 32 = .ok (.invokevirtual 248, 3) := by decide +kernel
theorem dX8_drift_35 : decode cX8_drift 35 = .ok (.iinc 2 1, 3) := by decide +kernel
theorem dX8_drift_38 : decode cX8_drift 38 = .ok (.goto (-23), 3) := by decide +kernel
theorem dX8_drift_41 : decode cX8_drift 41 = .ok (.aload_n 0, 1) := by decide +kernel
theorem dX8_drift_42 : decode cX8_drift 42 = .ok (.getfield 12, 3) := by decide +kernel
theorem dX8_drift_45 : decode cX8_drift 45 = .ok (.getfield 132, 3) := by decide +kernel
theorem dX8_drift_48 : decode cX8_drift 48 = .ok (.invokevirtual 192, 3) := by decide +kernel
theorem dX8_drift_51 : decode cX8_drift 51 = .ok (.ireturn, 1) := by decide +kernel
theorem dX8_undo_0 : decode cX8_undo 0 = .ok (.aload_n 0, 1) := by decide +kernel
theorem dX8_undo_1 : decode cX8_undo 1 = .ok (.getfield 19, 3) := by decide +kernel
theorem dX8_undo_4 : decode cX8_undo 4 = .ok (.getfield 200, 3) := by decide +kernel
theorem dX8_undo_7 : decode cX8_undo 7 = .ok (.ifCond .ne 6, 3) := by decide +kernel
theorem dX8_undo_10 : decode cX8_undo 10 = .ok (.bipush (-4), 2) := by decide +kernel
theorem dX8_undo_12 : decode cX8_undo 12 = .ok (.ireturn, 1) := by decide +kernel
theorem dX8_undo_13 : decode cX8_undo 13 = .ok (.aload_n 0, 1) := by decide +kernel
theorem dX8_undo_14 : decode cX8_undo 14 = .ok (.getfield 19, 3) := by decide +kernel
theorem dX8_undo_17 : decode cX8_undo 17 = .ok (.aload_n 0, 1) := by decide +kernel
theorem dX8_undo_18 : decode cX8_undo 18 = .ok (.getfield 12, 3) := by decide +kernel
theorem dX8_undo_21 : decode cX8_undo 21 = .ok (.invokevirtual 251, 3) := by decide +kernel
theorem dX8_undo_24 : decode cX8_undo 24 = .ok (.aload_n 0, 1) := by decide +kernel
theorem dX8_undo_25 : decode cX8_undo 25 = .ok (.getfield 19, 3) := by decide +kernel
theorem dX8_undo_28 : decode cX8_undo 28 = .ok (.getfield 200, 3) := by decide +kernel
theorem dX8_undo_31 : decode cX8_undo 31 = .ok (.ireturn, 1) := by decide +kernel
theorem dX8_seed_0 : decode cX8_seed 0 = .ok (.iload_n 1, 1) := by decide +kernel
theorem dX8_seed_1 : decode cX8_seed 1 = .ok (.ifCond .ge 5, 3) := by decide +kernel
theorem dX8_seed_4 : decode cX8_seed 4 = .ok (.iconst (-1), 1) := by decide +kernel
theorem dX8_seed_5 : decode cX8_seed 5 = .ok (.ireturn, 1) := by decide +kernel
theorem dX8_seed_6 : decode cX8_seed 6 = .ok (.aload_n 0, 1) := by decide +kernel
theorem dX8_seed_7 : decode cX8_seed 7 = .ok (.getfield 12, 3) := by decide +kernel
theorem dX8_seed_10 : decode cX8_seed 10 = .ok (.getfield 254, 3) := by decide +kernel
theorem dX8_seed_13 : decode cX8_seed 13 = .ok (.istore_n 2, 1) := by decide +kernel
theorem dX8_seed_14 : decode cX8_seed 14 = .ok (.aload_n 0, 1) := by decide +kernel
theorem dX8_seed_15 : decode cX8_seed 15 = .ok (.getfield 12, 3) := by decide +kernel
theorem dX8_seed_18 : decode cX8_seed 18 = .ok (.iload_n 1, 1) := by decide +kernel
theorem dX8_seed_19 : decode cX8_seed 19 = .ok (.putfield 254, 3) := by decide +kernel
theorem dX8_seed_22 : decode cX8_seed 22 = .ok (.iload_n 2, 1) := by decide +kernel
theorem dX8_seed_23 : decode cX8_seed 23 = .ok (.ireturn, 1) := by decide +kernel
theorem dX8_image_0 : decode cX8_image 0 = .ok (.aload_n 0, 1) := by decide +kernel
theorem dX8_image_1 : decode cX8_image 1 = .ok (.getfield 23, 3) := by decide +kernel
theorem dX8_image_4 : decode cX8_image 4 = .ok (.aload_n 0, 1) := by decide +kernel
theorem dX8_image_5 : decode cX8_image 5 = .ok (.getfield 12, 3) := by decide +kernel
theorem dX8_image_8 : decode cX8_image 8 = .ok (.invokevirtual 257, 3) := by decide +kernel
theorem dX8_image_11 : decode cX8_image 11 = .ok (.aload_n 0, 1) := by decide +kernel
theorem dX8_image_12 : decode cX8_image 12 = .ok (.getfield 26, 3) := by decide +kernel
theorem dX8_image_15 : decode cX8_image 15 = .ok (.aload_n 0, 1) := by decide +kernel
theorem dX8_image_16 : decode cX8_image 16 = .ok (.getfield 19, 3) := by decide +kernel
theorem dX8_image_19 : decode cX8_image 19 = .ok (.invokevirtual 259, 3) := by decide +kernel
theorem dX8_image_22 : decode cX8_image 22 = .ok (.aload_n 0, 1) := by decide +kernel
theorem dX8_image_23 : decode cX8_image 23 = .ok (.iconst 1, 1) := by decide +kernel
theorem dX8_image_24 : decode cX8_image 24 = .ok (.putfield 262, 3) := by decide +kernel
theorem dX8_image_27 : decode cX8_image 27 = .ok (.iconst 1, 1) := by decide +kernel
theorem dX8_image_28 : decode cX8_image 28 = .ok (.ireturn, 1) := by decide +kernel
theorem dX8_restore_0 : decode cX8_restore 0 = .ok (.aload_n 0, 1) := by decide +kernel
theorem dX8_restore_1 : decode cX8_restore 1 = .ok (.getfield 262, 3) := by decide +kernel
theorem dX8_restore_4 : decode cX8_restore 4 = .ok (.ifCond .ne 6, 3) := by decide +kernel
theorem dX8_restore_7 : decode cX8_restore 7 = .ok (.bipush (-4), 2) := by decide +kernel
theorem dX8_restore_9 : decode cX8_restore 9 = .ok (.ireturn, 1) := by decide +kernel
theorem dX8_restore_10 : decode cX8_restore 10 = .ok (.aload_n 0, 1) := by decide +kernel
theorem dX8_restore_11 : decode cX8_restore 11 = .ok (.getfield 12, 3) := by decide +kernel
theorem dX8_restore_14 : decode cX8_restore 14 = .ok (.aload_n 0, 1) := by decide +kernel
theorem dX8_restore_15 : decode cX8_restore 15 = .ok (.getfield 23, 3) := by decide +kernel
theorem dX8_restore_18 : decode cX8_restore 18 = .ok (.invokevirtual 257, 3) := by decide +kernel
theorem dX8_restore_21 : decode cX8_restore 21 = .ok (.aload_n 0, 1) := by decide +kernel
theorem dX8_restore_22 : decode cX8_restore 22 = .ok (.getfield 19, 3) := by decide +kernel
theorem dX8_restore_25 : decode cX8_restore 25 = .ok (.aload_n 0, 1) := by decide +kernel
theorem dX8_restore_26 : decode cX8_restore 26 = .ok (.getfield 26, 3) := by decide +kernel
theorem dX8_restore_29 : decode cX8_restore 29 = .ok (.invokevirtual 259, 3) := by decide +kernel
theorem dX8_restore_32 : decode cX8_restore 32 = .ok (.iconst 1, 1) := by decide +kernel
theorem dX8_restore_33 : decode cX8_restore 33 = .ok (.ireturn, 1) := by decide +kernel
theorem dX8_got_0 : decode cX8_got 0 = .ok (.iload_n 1, 1) := by decide +kernel
theorem dX8_got_1 : decode cX8_got 1 = .ok (.invokestatic 57, 3) := by decide +kernel
theorem dX8_got_4 : decode cX8_got 4 = .ok (.ifCond .ne 30, 3) := by decide +kernel
theorem dX8_got_7 : decode cX8_got 7 = .ok (.iload_n 2, 1) := by decide +kernel
theorem dX8_got_8 : decode cX8_got 8 = .ok (.invokestatic 266, 3) := by decide +kernel
theorem dX8_got_11 : decode cX8_got 11 = .ok (.ifCond .ne 23, 3) := by decide +kernel
theorem dX8_got_14 : decode cX8_got 14 = .ok (.iload_n 3, 1) := by decide +kernel
theorem dX8_got_15 : decode cX8_got 15 = .ok (.invokestatic 269, 3) := by decide +kernel
theorem dX8_got_18 : decode cX8_got 18 = .ok (.ifCond .ne 16, 3) := by decide +kernel
theorem dX8_got_21 : decode cX8_got 21 = .ok (.iload 5, 2) := by decide +kernel
theorem dX8_got_23 : decode cX8_got 23 = .ok (.iconst 1, 1) := by decide +kernel
theorem dX8_got_24 : decode cX8_got 24 = .ok (.if_icmp .lt 10, 3) := by decide +kernel
theorem dX8_got_27 : decode cX8_got 27 = .ok (.iload 5, 2) := by decide +kernel
theorem dX8_got_29 : decode cX8_got 29 = .ok (.bipush 24, 2) := by decide +kernel
theorem dX8_got_31 : decode cX8_got 31 = .ok (.if_icmp .le 5, 3) := by decide +kernel
theorem dX8_got_34 : decode cX8_got 34 = .ok (.iconst (-1), 1) := by decide +kernel
theorem dX8_got_35 : decode cX8_got 35 = .ok (.ireturn, 1) := by decide +kernel
theorem dX8_got_36 : decode cX8_got 36 = .ok (.aload_n 0, 1) := by decide +kernel
theorem dX8_got_37 : decode cX8_got 37 = .ok (.getfield 38, 3) := by decide +kernel
theorem dX8_got_40 : decode cX8_got 40 = .ok (.iload_n 2, 1) := by decide +kernel
theorem dX8_got_41 : decode cX8_got 41 = .ok (.aaload, 1) := by decide +kernel
theorem dX8_got_42 : decode cX8_got 42 = .ok (.astore 6, 2) := by decide +kernel
theorem dX8_got_44 : decode cX8_got 44 = .ok (.aload 6, 2) := by decide +kernel
theorem dX8_got_46 : decode cX8_got 46 = .ok (.iload_n 3, 1) := by decide +kernel
theorem dX8_got_47 : decode cX8_got 47 = .ok (.iload 4, 2) := by decide +kernel
theorem dX8_got_49 : decode cX8_got 49 = .ok (.iload 5, 2) := by decide +kernel
theorem dX8_got_51 : decode cX8_got 51 = .ok (.invokevirtual 272, 3) := by decide +kernel
theorem dX8_got_54 : decode cX8_got 54 = .ok (.istore 7, 2) := by decide +kernel
theorem dX8_got_56 : decode cX8_got 56 = .ok (.iload 7, 2) := by decide +kernel
theorem dX8_got_58 : decode cX8_got 58 = .ok (.ifCond .eq 6, 3) := by decide +kernel
theorem dX8_got_61 : decode cX8_got 61 = .ok (.iload 7, 2) := by decide +kernel
theorem dX8_got_63 : decode cX8_got 63 = .ok (.ireturn, 1) := by decide +kernel
theorem dX8_got_64 : decode cX8_got 64 = .ok (.aload_n 0, 1) := by decide +kernel
theorem dX8_got_65 : decode cX8_got 65 = .ok (.aload 6, 2) := by decide +kernel
theorem dX8_got_67 : decode cX8_got 67 = .ok (.iload 4, 2) := by decide +kernel
theorem dX8_got_69 : decode cX8_got 69 = .ok (.iload 5, 2) := by decide +kernel
theorem dX8_got_71 : decode cX8_got 71 = .ok (.invokevirtual 276, 3) := by decide +kernel
theorem dX8_got_74 : decode cX8_got 74 = .ok (.ifCond .ne 6, 3) := by decide +kernel
theorem dX8_got_77 : decode cX8_got 77 = .ok (.bipush (-2), 2) := by decide +kernel
theorem dX8_got_79 : decode cX8_got 79 = .ok (.ireturn, 1) := by decide +kernel
theorem dX8_got_80 : decode cX8_got 80 = .ok (.aload_n 0, 1) := by decide +kernel
theorem dX8_got_81 : decode cX8_got 81 = .ok (.getfield 12, 3) := by decide +kernel
theorem dX8_got_84 : decode cX8_got 84 = .ok (.invokevirtual 145, 3) := by decide +kernel
theorem dX8_got_87 : decode cX8_got 87 = .ok (.istore 8, 2) := by decide +kernel
theorem dX8_got_89 : decode cX8_got 89 = .ok (.iload 8, 2) := by decide +kernel
theorem dX8_got_91 : decode cX8_got 91 = .ok (.bipush (-4), 2) := by decide +kernel
theorem dX8_got_93 : decode cX8_got 93 = .ok (.if_icmp .ne 6, 3) := by decide +kernel
theorem dX8_got_96 : decode cX8_got 96 = .ok (.bipush (-4), 2) := by decide +kernel
theorem dX8_got_98 : decode cX8_got 98 = .ok (.ireturn, 1) := by decide +kernel
theorem dX8_got_99 : decode cX8_got 99 = .ok (.aload_n 0, 1) := by decide +kernel
theorem dX8_got_100 : decode cX8_got 100 = .ok (.getfield 52, 3) := by decide +kernel
theorem dX8_got_103 : decode cX8_got 103 = .ok (.aload_n 0, 1) := by decide +kernel
theorem dX8_got_104 : decode cX8_got 104 = .ok (.getfield 12, 3) := by decide +kernel
theorem dX8_got_107 : decode cX8_got 107 = .ok (.getfield 120, 3) := by decide +kernel
theorem dX8_got_110 : decode cX8_got 110 = .ok (.iconst 1, 1) := by decide +kernel
theorem dX8_got_111 : decode cX8_got 111 = .ok (.iload_n 1, 1) := by decide +kernel
theorem dX8_got_112 : decode cX8_got 112 = .ok (.ishl, 1) := by decide +kernel
theorem dX8_got_113 : decode cX8_got 113 = .ok (.invokevirtual 206, 3) := by decide +kernel
theorem dX8_got_116 : decode cX8_got 116 = .ok (.iload 4, 2) := by decide +kernel
theorem dX8_got_118 : decode cX8_got 118 = .ok (.istore 9, 2) := by decide +kernel
theorem dX8_got_120 : decode cX8_got 120 = .ok (.iload 9, 2) := by decide +kernel
theorem dX8_got_122 : decode cX8_got 122 = .ok (.iload 4, 2) := by decide +kernel
theorem dX8_got_124 : decode cX8_got 124 = .ok (.iload 5, 2) := by decide +kernel
theorem dX8_got_126 : decode cX8_got 126 = .ok (.iadd, 1) := by decide +kernel
theorem dX8_got_127 : decode cX8_got 127 = .ok (.if_icmp .ge 33, 3) := by decide +kernel
theorem dX8_got_130 : decode cX8_got 130 = .ok (.aload_n 0, 1) := by decide +kernel
theorem dX8_got_131 : decode cX8_got 131 = .ok (.getfield 52, 3) := by decide +kernel
theorem dX8_got_134 : decode cX8_got 134 = .ok (.aload_n 0, 1) := by decide +kernel
theorem dX8_got_135 : decode cX8_got 135 = .ok (.getfield 12, 3) := by decide +kernel
theorem dX8_got_138 : decode cX8_got 138 = .ok (.getfield 178, 3) := by decide +kernel
theorem dX8_got_141 : decode cX8_got 141 = .ok (.aload 6, 2) := by decide +kernel
theorem dX8_got_143 : decode cX8_got 143 = .ok (.getfield 280, 3) := by decide +kernel
theorem dX8_got_146 : decode cX8_got 146 = .ok (.iload 9, 2) := by decide +kernel
theorem dX8_got_148 : decode cX8_got 148 = .ok (.laload, 1) := by decide +kernel
theorem dX8_got_149 : decode cX8_got 149 = .ok (.l2i, 1) := by decide +kernel
theorem dX8_got_150 : decode cX8_got 150 = .ok (.invokevirtual 284, 3) := by decide +kernel
theorem dX8_got_153 : decode cX8_got 153 = .ok (.pop, 1) := by decide +kernel
theorem dX8_got_154 : decode cX8_got 154 = .ok (.iinc 9 1, 3) := by decide +kernel
theorem dX8_got_157 : decode cX8_got 157 = .ok (.goto (-37), 3) := by decide +kernel
theorem dX8_got_160 : decode cX8_got 160 = .ok (.aload_n 0, 1) := by decide +kernel
theorem dX8_got_161 : decode cX8_got 161 = .ok (.getfield 52, 3) := by decide +kernel
theorem dX8_got_164 : decode cX8_got 164 = .ok (.iload 8, 2) := by decide +kernel
theorem dX8_got_166 : decode cX8_got 166 = .ok (.invokevirtual 214, 3) := by decide +kernel
theorem dX8_got_169 : decode cX8_got 169 = .ok (.ifCond .eq 7, 3) := by decide +kernel
theorem dX8_got_172 : decode cX8_got 172 = .ok (.iconst 1, 1) := by decide +kernel
theorem dX8_got_173 : decode cX8_got 173 = .ok (.goto 4, 3) := by decide +kernel
theorem dX8_got_176 : decode cX8_got 176 = .ok (.iconst 0, 1) := by decide +kernel
theorem dX8_got_177 : decode cX8_got 177 = .ok (.ireturn, 1) := by decide +kernel
theorem dX8_film_0 : decode cX8_film 0 = .ok (.iload_n 1, 1) := by decide +kernel
theorem dX8_film_1 : decode cX8_film 1 = .ok (.bipush 16, 2) := by decide +kernel
theorem dX8_film_3 : decode cX8_film 3 = .ok (.if_icmp .lt 23, 3) := by decide +kernel
theorem dX8_film_6 : decode cX8_film 6 = .ok (.iload_n 1, 1) := by decide +kernel
theorem dX8_film_7 : decode cX8_film 7 = .ok (.bipush 32, 2) := by decide +kernel
theorem dX8_film_9 : decode cX8_film 9 = .ok (.if_icmp .ge 17, 3) := by decide +kernel
theorem dX8_film_12 : decode cX8_film 12 = .ok (.iload_n 2, 1) := by decide +kernel
theorem dX8_film_13 : decode cX8_film 13 = .ok (.invokestatic 266, 3) := by decide +kernel
theorem dX8_film_16 : decode cX8_film 16 = .ok (.ifCond .ne 10, 3) := by decide +kernel
theorem dX8_film_19 : decode cX8_film 19 = .ok (.iload_n 3, 1) := by decide +kernel
theorem dX8_film_20 : decode cX8_film 20 = .ok (.invokestatic 269, 3) := by decide +kernel
theorem dX8_film_23 : decode cX8_film 23 = .ok (.ifCond .eq 5, 3) := by decide +kernel
theorem dX8_film_26 : decode cX8_film 26 = .ok (.iconst (-1), 1) := by decide +kernel
theorem dX8_film_27 : decode cX8_film 27 = .ok (.ireturn, 1) := by decide +kernel
theorem dX8_film_28 : decode cX8_film 28 = .ok (.aload_n 0, 1) := by decide +kernel
theorem dX8_film_29 : decode cX8_film 29 = .ok (.getfield 38, 3) := by decide +kernel
theorem dX8_film_32 : decode cX8_film 32 = .ok (.iload_n 2, 1) := by decide +kernel
theorem dX8_film_33 : decode cX8_film 33 = .ok (.aaload, 1) := by decide +kernel
theorem dX8_film_34 : decode cX8_film 34 = .ok (.astore 5, 2) := by decide +kernel
theorem dX8_film_36 : decode cX8_film 36 = .ok (.aload 5, 2) := by decide +kernel
theorem dX8_film_38 : decode cX8_film 38 = .ok (.iload_n 3, 1) := by decide +kernel
theorem dX8_film_39 : decode cX8_film 39 = .ok (.iload 4, 2) := by decide +kernel
theorem dX8_film_41 : decode cX8_film 41 = .ok (.iconst 5, 1) := by decide +kernel
theorem dX8_film_42 : decode cX8_film 42 = .ok (.invokevirtual 272, 3) := by decide +kernel
theorem dX8_film_45 : decode cX8_film 45 = .ok (.istore 6, 2) := by decide +kernel
theorem dX8_film_47 : decode cX8_film 47 = .ok (.iload 6, 2) := by decide +kernel
theorem dX8_film_49 : decode cX8_film 49 = .ok (.ifCond .eq 6, 3) := by decide +kernel
theorem dX8_film_52 : decode cX8_film 52 = .ok (.iload 6, 2) := by decide +kernel
theorem dX8_film_54 : decode cX8_film 54 = .ok (.ireturn, 1) := by decide +kernel
theorem dX8_film_55 : decode cX8_film 55 = .ok (.iload_n 1, 1) := by decide +kernel
theorem dX8_film_56 : decode cX8_film 56 = .ok (.istore 7, 2) := by decide +kernel
theorem dX8_film_58 : decode cX8_film 58 = .ok (.iconst 0, 1) := by decide +kernel
theorem dX8_film_59 : decode cX8_film 59 = .ok (.istore 8, 2) := by decide +kernel
theorem dX8_film_61 : decode cX8_film 61 = .ok (.iload 8, 2) := by decide +kernel
theorem dX8_film_63 : decode cX8_film 63 = .ok (.iconst 5, 1) := by decide +kernel
theorem dX8_film_64 : decode cX8_film 64 = .ok (.if_icmp .ge 39, 3) := by decide +kernel
theorem dX8_film_67 : decode cX8_film 67 = .ok (.aload 5, 2) := by decide +kernel
theorem dX8_film_69 : decode cX8_film 69 = .ok (.iload 4, 2) := by decide +kernel
theorem dX8_film_71 : decode cX8_film 71 = .ok (.iload 8, 2) := by decide +kernel
theorem dX8_film_73 : decode cX8_film 73 = .ok (.iadd, 1) := by decide +kernel
theorem dX8_film_74 : decode cX8_film 74 = .ok (.aload_n 0, 1) := by decide +kernel
theorem dX8_film_75 : decode cX8_film 75 = .ok (.getfield 12, 3) := by decide +kernel
theorem dX8_film_78 : decode cX8_film 78 = .ok (.getfield 120, 3) := by decide +kernel
theorem dX8_film_81 : decode cX8_film 81 = .ok (.getfield 160, 3) := by decide +kernel
theorem dX8_film_84 : decode cX8_film 84 = .ok (.iload 7, 2) := by decide +kernel
theorem dX8_film_86 : decode cX8_film 86 = .ok (.iaload, 1) := by decide +kernel
theorem dX8_film_87 : decode cX8_film 87 = .ok (.i2l, 1) := by decide +kernel
theorem dX8_film_88 : decode cX8_film 88 = .ok (.invokevirtual 288, 3) := by decide +kernel
theorem dX8_film_91 : decode cX8_film 91 = .ok (.iload 7, 2) := by decide +kernel
theorem dX8_film_93 : decode cX8_film 93 = .ok (.iconst 2, 1) := by decide +kernel
theorem dX8_film_94 : decode cX8_film 94 = .ok (.idiv, 1) := by decide +kernel
theorem dX8_film_95 : decode cX8_film 95 = .ok (.istore 7, 2) := by decide +kernel
theorem dX8_film_97 : decode cX8_film 97 = .ok (.iinc 8 1, 3) := by decide +kernel
theorem dX8_film_100 : decode cX8_film 100 = .ok (.goto (-39), 3) := by decide +kernel
theorem dX8_film_103 : decode cX8_film 103 = .ok (.iconst 5, 1) := by decide +kernel
theorem dX8_film_104 : decode cX8_film 104 = .ok (.ireturn, 1) := by decide +kernel
theorem dX8_sheet_0 : decode cX8_sheet 0 = .ok (.iload_n 1, 1) := by decide +kernel
theorem dX8_sheet_1 : decode cX8_sheet 1 = .ok (.invokestatic 266, 3) := by decide +kernel
theorem dX8_sheet_4 : decode cX8_sheet 4 = .ok (.ifCond .ne 16, 3) := by decide +kernel
theorem dX8_sheet_7 : decode cX8_sheet 7 = .ok (.iload_n 2, 1) := by decide +kernel
theorem dX8_sheet_8 : decode cX8_sheet 8 = .ok (.invokestatic 269, 3) := by decide +kernel
theorem dX8_sheet_11 : decode cX8_sheet 11 = .ok (.ifCond .ne 9, 3) := by decide +kernel
theorem dX8_sheet_14 : decode cX8_sheet 14 = .ok (.iload_n 3, 1) := by decide +kernel
theorem dX8_sheet_15 : decode cX8_sheet 15 = .ok (.bipush 24, 2) := by decide +kernel
theorem dX8_sheet_17 : decode cX8_sheet 17 = .ok (.if_icmp .le 5, 3) := by decide +kernel
theorem dX8_sheet_20 : decode cX8_sheet 20 = .ok (.iconst (-1), 1) := by decide +kernel
theorem dX8_sheet_21 : decode cX8_sheet 21 = .ok (.ireturn, 1) := by decide +kernel
theorem dX8_sheet_22 : decode cX8_sheet 22 = .ok (.iload_n 3, 1) := by decide +kernel
theorem dX8_sheet_23 : decode cX8_sheet 23 = .ok (.ifCond .ge 6, 3) := by decide +kernel
theorem dX8_sheet_26 : decode cX8_sheet 26 = .ok (.bipush (-14), 2) := by decide +kernel
theorem dX8_sheet_28 : decode cX8_sheet 28 = .ok (.ireturn, 1) := by decide +kernel
theorem dX8_sheet_29 : decode cX8_sheet 29 = .ok (.aload_n 0, 1) := by decide +kernel
theorem dX8_sheet_30 : decode cX8_sheet 30 = .ok (.getfield 38, 3) := by decide +kernel
theorem dX8_sheet_33 : decode cX8_sheet 33 = .ok (.iload_n 1, 1) := by decide +kernel
theorem dX8_sheet_34 : decode cX8_sheet 34 = .ok (.aaload, 1) := by decide +kernel
theorem dX8_sheet_35 : decode cX8_sheet 35 = .ok (.iload_n 2, 1) := by decide +kernel
theorem dX8_sheet_36 : decode cX8_sheet 36 = .ok (.iload_n 3, 1) := by decide +kernel
theorem dX8_sheet_37 : decode cX8_sheet 37 = .ok (.invokevirtual 292, 3) := by decide +kernel
theorem dX8_sheet_40 : decode cX8_sheet 40 = .ok (.iload_n 3, 1) := by decide +kernel
theorem dX8_sheet_41 : decode cX8_sheet 41 = .ok (.ireturn, 1) := by decide +kernel
theorem dX8_drop_0 : decode cX8_drop 0 = .ok (.iload_n 1, 1) := by decide +kernel
theorem dX8_drop_1 : decode cX8_drop 1 = .ok (.invokestatic 266, 3) := by decide +kernel
theorem dX8_drop_4 : decode cX8_drop 4 = .ok (.ifCond .eq 5, 3) := by decide +kernel
theorem dX8_drop_7 : decode cX8_drop 7 = .ok (.iconst (-1), 1) := by decide +kernel
theorem dX8_drop_8 : decode cX8_drop 8 = .ok (.ireturn, 1) := by decide +kernel
theorem dX8_drop_9 : decode cX8_drop 9 = .ok (.aload_n 0, 1) := by decide +kernel
theorem dX8_drop_10 : decode cX8_drop 10 = .ok (.getfield 38, 3) := by decide +kernel
theorem dX8_drop_13 : decode cX8_drop 13 = .ok (.iload_n 1, 1) := by decide +kernel
theorem dX8_drop_14 : decode cX8_drop 14 = .ok (.aaload, 1) := by decide +kernel
theorem dX8_drop_15 : decode cX8_drop 15 = .ok (.astore_n 2, 1) := by decide +kernel
theorem dX8_drop_16 : decode cX8_drop 16 = .ok (.aload_n 2, 1) := by decide +kernel
theorem dX8_drop_17 : decode cX8_drop 17 = .ok (.getfield 296, 3) := by decide +kernel
theorem dX8_drop_20 : decode cX8_drop 20 = .ok (.iconst (-1), 1) := by decide +kernel
theorem dX8_drop_21 : decode cX8_drop 21 = .ok (.if_icmp .ne 6, 3) := by decide +kernel
theorem dX8_drop_24 : decode cX8_drop 24 = .ok (.bipush (-11), 2) := by decide +kernel
theorem dX8_drop_26 : decode cX8_drop 26 = .ok (.ireturn, 1) := by decide +kernel
theorem dX8_drop_27 : decode cX8_drop 27 = .ok (.aload_n 2, 1) := by decide +kernel
theorem dX8_drop_28 : decode cX8_drop 28 = .ok (.getfield 299, 3) := by decide +kernel
theorem dX8_drop_31 : decode cX8_drop 31 = .ok (.istore_n 3, 1) := by decide +kernel
theorem dX8_drop_32 : decode cX8_drop 32 = .ok (.aload_n 2, 1) := by decide +kernel
theorem dX8_drop_33 : decode cX8_drop 33 = .ok (.iconst (-1), 1) := by decide +kernel
theorem dX8_drop_34 : decode cX8_drop 34 = .ok (.iconst 0, 1) := by decide +kernel
theorem dX8_drop_35 : decode cX8_drop 35 = .ok (.invokevirtual 292, 3) := by decide +kernel
theorem dX8_drop_38 : decode cX8_drop 38 = .ok (.iload_n 3, 1) := by decide +kernel
theorem dX8_drop_39 : decode cX8_drop 39 = .ok (.ireturn, 1) := by decide +kernel
theorem dX8_item_0 : decode cX8_item 0 = .ok (.iload_n 1, 1) := by decide +kernel
theorem dX8_item_1 : decode cX8_item 1 = .ok (.invokestatic 266, 3) := by decide +kernel
theorem dX8_item_4 : decode cX8_item 4 = .ok (.ifCond .ne 10, 3) := by decide +kernel
theorem dX8_item_7 : decode cX8_item 7 = .ok (.iload_n 2, 1) := by decide +kernel
theorem dX8_item_8 : decode cX8_item 8 = .ok (.invokestatic 269, 3) := by decide +kernel
theorem dX8_item_11 : decode cX8_item 11 = .ok (.ifCond .eq 5, 3) := by decide +kernel
theorem dX8_item_14 : decode cX8_item 14 = .ok (.iconst (-1), 1) := by decide +kernel
theorem dX8_item_15 : decode cX8_item 15 = .ok (.ireturn, 1) := by decide +kernel
theorem dX8_item_16 : decode cX8_item 16 = .ok (.aload_n 0, 1) := by decide +kernel
theorem dX8_item_17 : decode cX8_item 17 = .ok (.getfield 38, 3) := by decide +kernel
theorem dX8_item_20 : decode cX8_item 20 = .ok (.iload_n 1, 1) := by decide +kernel
theorem dX8_item_21 : decode cX8_item 21 = .ok (.aaload, 1) := by decide +kernel
theorem dX8_item_22 : decode cX8_item 22 = .ok (.astore 6, 2) := by decide +kernel
theorem dX8_item_24 : decode cX8_item 24 = .ok (.aload 6, 2) := by decide +kernel
theorem dX8_item_26 : decode cX8_item 26 = .ok (.iload_n 2, 1) := by decide +kernel
theorem dX8_item_27 : decode cX8_item 27 = .ok (.iload_n 3, 1) := by decide +kernel
theorem dX8_item_28 : decode cX8_item 28 = .ok (.iconst 1, 1) := by decide +kernel
theorem dX8_item_29 : decode cX8_item 29 = .ok (.invokevirtual 272, 3) := by decide +kernel
theorem dX8_item_32 : decode cX8_item 32 = .ok (.istore 7, 2) := by decide +kernel
theorem dX8_item_34 : decode cX8_item 34 = .ok (.iload 7, 2) := by decide +kernel
theorem dX8_item_36 : decode cX8_item 36 = .ok (.ifCond .eq 6, 3) := by decide +kernel
theorem dX8_item_39 : decode cX8_item 39 = .ok (.iload 7, 2) := by decide +kernel
theorem dX8_item_41 : decode cX8_item 41 = .ok (.ireturn, 1) := by decide +kernel
theorem dX8_item_42 : decode cX8_item 42 = .ok (.aload 6, 2) := by decide +kernel
theorem dX8_item_44 : decode cX8_item 44 = .ok (.iload_n 3, 1) := by decide +kernel
theorem dX8_item_45 : decode cX8_item 45 = .ok (.lload 4, 2) := by decide +kernel
theorem dX8_item_47 : decode cX8_item 47 = .ok (.invokevirtual 288, 3) := by decide +kernel
theorem dX8_item_50 : decode cX8_item 50 = .ok (.iconst 1, 1) := by decide +kernel
theorem dX8_item_51 : decode cX8_item 51 = .ok (.ireturn, 1) := by decide +kernel
theorem dX8_copy_0 : decode cX8_copy 0 = .ok (.iload_n 1, 1) := by decide +kernel
theorem dX8_copy_1 : decode cX8_copy 1 = .ok (.invokestatic 266, 3) := by decide +kernel
theorem dX8_copy_4 : decode cX8_copy 4 = .ok (.ifCond .ne 10, 3) := by decide +kernel
theorem dX8_copy_7 : decode cX8_copy 7 = .ok (.iload_n 3, 1) := by decide +kernel
theorem dX8_copy_8 : decode cX8_copy 8 = .ok (.invokestatic 266, 3) := by decide +kernel
theorem dX8_copy_11 : decode cX8_copy 11 = .ok (.ifCond .eq 5, 3) := by decide +kernel
theorem dX8_copy_14 : decode cX8_copy 14 = .ok (.iconst (-1), 1) := by decide +kernel
theorem dX8_copy_15 : decode cX8_copy 15 = .ok (.ireturn, 1) := by decide +kernel
theorem dX8_copy_16 : decode cX8_copy 16 = .ok (.aload_n 0, 1) := by decide +kernel
theorem dX8_copy_17 : decode cX8_copy 17 = .ok (.getfield 38, 3) := by decide +kernel
theorem dX8_copy_20 : decode cX8_copy 20 = .ok (.iload_n 1, 1) := by decide +kernel
theorem dX8_copy_21 : decode cX8_copy 21 = .ok (.aaload, 1) := by decide +kernel
theorem dX8_copy_22 : decode cX8_copy 22 = .ok (.astore 6, 2) := by decide +kernel
theorem dX8_copy_24 : decode cX8_copy 24 = .ok (.aload_n 0, 1) := by decide +kernel
theorem dX8_copy_25 : decode cX8_copy 25 = .ok (.getfield 38, 3) := by decide +kernel
theorem dX8_copy_28 : decode cX8_copy 28 = .ok (.iload_n 3, 1) := by decide +kernel
theorem dX8_copy_29 : decode cX8_copy 29 = .ok (.aaload, 1) := by decide +kernel
theorem dX8_copy_30 : decode cX8_copy 30 = .ok (.astore 7, 2) := by decide +kernel
theorem dX8_copy_32 : decode cX8_copy 32 = .ok (.aload 6, 2) := by decide +kernel
theorem dX8_copy_34 : decode cX8_copy 34 = .ok (.getfield 296, 3) := by decide +kernel
theorem dX8_copy_37 : decode cX8_copy 37 = .ok (.iconst (-1), 1) := by decide +kernel
theorem dX8_copy_38 : decode cX8_copy 38 = .ok (.if_icmp .eq 12, 3) := by decide +kernel
theorem dX8_copy_41 : decode cX8_copy 41 = .ok (.aload 7, 2) := by decide +kernel
theorem dX8_copy_43 : decode cX8_copy 43 = .ok (.getfield 296, 3) := by decide +kernel
theorem dX8_copy_46 : decode cX8_copy 46 = .ok (.iconst (-1), 1) := by decide +kernel
theorem dX8_copy_47 : decode cX8_copy 47 = .ok (.if_icmp .ne 6, 3) := by decide +kernel
theorem dX8_copy_50 : decode cX8_copy 50 = .ok (.bipush (-11), 2) := by decide +kernel
theorem dX8_copy_52 : decode cX8_copy 52 = .ok (.ireturn, 1) := by decide +kernel
theorem dX8_copy_53 : decode cX8_copy 53 = .ok (.aload 6, 2) := by decide +kernel
theorem dX8_copy_55 : decode cX8_copy 55 = .ok (.getfield 296, 3) := by decide +kernel
theorem dX8_copy_58 : decode cX8_copy 58 = .ok (.aload 7, 2) := by decide +kernel
theorem dX8_copy_60 : decode cX8_copy 60 = .ok (.getfield 296, 3) := by decide +kernel
theorem dX8_copy_63 : decode cX8_copy 63 = .ok (.if_icmp .eq 6, 3) := by decide +kernel
theorem dX8_copy_66 : decode cX8_copy 66 = .ok (.bipush (-12), 2) := by decide +kernel
theorem dX8_copy_68 : decode cX8_copy 68 = .ok (.ireturn, 1) := by decide +kernel
theorem dX8_copy_69 : decode cX8_copy 69 = .ok (.aload 6, 2) := by decide +kernel
theorem dX8_copy_71 : decode cX8_copy 71 = .ok (.iload_n 2, 1) := by decide +kernel
theorem dX8_copy_72 : decode cX8_copy 72 = .ok (.iload 5, 2) := by decide +kernel
theorem dX8_copy_74 : decode cX8_copy 74 = .ok (.invokevirtual 300, 3) := by decide +kernel
theorem dX8_copy_77 : decode cX8_copy 77 = .ok (.ifCond .ne 15, 3) := by decide +kernel
theorem dX8_copy_80 : decode cX8_copy 80 = .ok (.aload 7, 2) := by decide +kernel
theorem dX8_copy_82 : decode cX8_copy 82 = .ok (.iload 4, 2) := by decide +kernel
theorem dX8_copy_84 : decode cX8_copy 84 = .ok (.iload 5, 2) := by decide +kernel
theorem dX8_copy_86 : decode cX8_copy 86 = .ok (.invokevirtual 300, 3) := by decide +kernel
theorem dX8_copy_89 : decode cX8_copy 89 = .ok (.ifCond .eq 6, 3) := by decide +kernel
theorem dX8_copy_92 : decode cX8_copy 92 = .ok (.bipush (-13), 2) := by decide +kernel
theorem dX8_copy_94 : decode cX8_copy 94 = .ok (.ireturn, 1) := by decide +kernel
theorem dX8_copy_95 : decode cX8_copy 95 = .ok (.aload 6, 2) := by decide +kernel
theorem dX8_copy_97 : decode cX8_copy 97 = .ok (.getfield 280, 3) := by decide +kernel
theorem dX8_copy_100 : decode cX8_copy 100 = .ok (.iload_n 2, 1) := by decide +kernel
theorem dX8_copy_101 : decode cX8_copy 101 = .ok (.aload 7, 2) := by decide +kernel
theorem dX8_copy_103 : decode cX8_copy 103 = .ok (.getfield 280, 3) := by decide +kernel
theorem dX8_copy_106 : decode cX8_copy 106 = .ok (.iload 4, 2) := by decide +kernel
theorem dX8_copy_108 : decode cX8_copy 108 = .ok (.iload 5, 2) := by decide +kernel
theorem dX8_copy_110 : decode cX8_copy 110 = .ok (.invokestatic 304, 3) := by decide +kernel
theorem dX8_copy_113 : decode cX8_copy 113 = .ok (.iload 5, 2) := by decide +kernel
theorem dX8_copy_115 : decode cX8_copy 115 = .ok (.ireturn, 1) := by decide +kernel
theorem dX8_noMember_0 : decode cX8_noMember 0 = .ok (.iload_n 0, 1) := by decide +kernel
theorem dX8_noMember_1 : decode cX8_noMember 1 = .ok (.ifCond .lt 9, 3) := by decide +kernel
theorem dX8_noMember_4 : decode cX8_noMember 4 = .ok (.iload_n 0, 1) := by decide +kernel
theorem dX8_noMember_5 : decode cX8_noMember 5 = .ok (.bipush 16, 2) := by decide +kernel
theorem dX8_noMember_7 : decode cX8_noMember 7 = .ok (.if_icmp .lt 7, 3) := by decide +kernel
theorem dX8_noMember_10 : decode cX8_noMember 10 = .ok (.iconst 1, 1) := by decide +kernel
theorem dX8_noMember_11 : decode cX8_noMember 11 = .ok (.goto 4, 3) := by decide +kernel
theorem dX8_noMember_14 : decode cX8_noMember 14 = .ok (.iconst 0, 1) := by decide +kernel
theorem dX8_noMember_15 : decode cX8_noMember 15 = .ok (.ireturn, 1) := by decide +kernel
theorem dX8_noSheet_0 : decode cX8_noSheet 0 = .ok (.iload_n 0, 1) := by decide +kernel
theorem dX8_noSheet_1 : decode cX8_noSheet 1 = .ok (.ifCond .lt 8, 3) := by decide +kernel
theorem dX8_noSheet_4 : decode cX8_noSheet 4 = .ok (.iload_n 0, 1) := by decide +kernel
theorem dX8_noSheet_5 : decode cX8_noSheet 5 = .ok (.iconst 4, 1) := by decide +kernel
theorem dX8_noSheet_6 : decode cX8_noSheet 6 = .ok (.if_icmp .lt 7, 3) := by decide +kernel
theorem dX8_noSheet_9 : decode cX8_noSheet 9 = .ok (.iconst 1, 1) := by decide +kernel
theorem dX8_noSheet_10 : decode cX8_noSheet 10 = .ok (.goto 4, 3) := by decide +kernel
theorem dX8_noSheet_13 : decode cX8_noSheet 13 = .ok (.iconst 0, 1) := by decide +kernel
theorem dX8_noSheet_14 : decode cX8_noSheet 14 = .ok (.ireturn, 1) := by decide +kernel
theorem dX8_noLane_0 : decode cX8_noLane 0 = .ok (.iload_n 0, 1) := by decide +kernel
theorem dX8_noLane_1 : decode cX8_noLane 1 = .ok (.ifCond .lt 8, 3) := by decide +kernel
theorem dX8_noLane_4 : decode cX8_noLane 4 = .ok (.iload_n 0, 1) := by decide +kernel
theorem dX8_noLane_5 : decode cX8_noLane 5 = .ok (.iconst 4, 1) := by decide +kernel
theorem dX8_noLane_6 : decode cX8_noLane 6 = .ok (.if_icmp .lt 7, 3) := by decide +kernel
theorem dX8_noLane_9 : decode cX8_noLane 9 = .ok (.iconst 1, 1) := by decide +kernel
theorem dX8_noLane_10 : decode cX8_noLane 10 = .ok (.goto 4, 3) := by decide +kernel
theorem dX8_noLane_13 : decode cX8_noLane 13 = .ok (.iconst 0, 1) := by decide +kernel
theorem dX8_noLane_14 : decode cX8_noLane 14 = .ok (.ireturn, 1) := by decide +kernel
theorem dX8_bit_0 : decode cX8_bit 0 = .ok (.iload_n 0, 1) := by decide +kernel
theorem dX8_bit_1 : decode cX8_bit 1 = .ok (.iload_n 1, 1) := by decide +kernel
theorem dX8_bit_2 : decode cX8_bit 2 = .ok (.iushr, 1) := by decide +kernel
theorem dX8_bit_3 : decode cX8_bit 3 = .ok (.iconst 1, 1) := by decide +kernel
theorem dX8_bit_4 : decode cX8_bit 4 = .ok (.iand, 1) := by decide +kernel
theorem dX8_bit_5 : decode cX8_bit 5 = .ok (.ireturn, 1) := by decide +kernel
theorem dX8_has_0 : decode cX8_has 0 = .ok (.iload_n 0, 1) := by decide +kernel
theorem dX8_has_1 : decode cX8_has 1 = .ok (.iload_n 1, 1) := by decide +kernel
theorem dX8_has_2 : decode cX8_has 2 = .ok (.invokestatic 151, 3) := by decide +kernel
theorem dX8_has_5 : decode cX8_has 5 = .ok (.iconst 1, 1) := by decide +kernel
theorem dX8_has_6 : decode cX8_has 6 = .ok (.if_icmp .ne 7, 3) := by decide +kernel
theorem dX8_has_9 : decode cX8_has 9 = .ok (.iconst 1, 1) := by decide +kernel
theorem dX8_has_10 : decode cX8_has 10 = .ok (.goto 4, 3) := by decide +kernel
theorem dX8_has_13 : decode cX8_has 13 = .ok (.iconst 0, 1) := by decide +kernel
theorem dX8_has_14 : decode cX8_has 14 = .ok (.ireturn, 1) := by decide +kernel
theorem dX8_commonOfTen_0 : decode cX8_commonOfTen 0 = .ok (.bipush 10, 2) := by decide +kernel
theorem dX8_commonOfTen_2 : decode cX8_commonOfTen 2 = .ok (.istore_n 1, 1) := by decide +kernel
theorem dX8_commonOfTen_3 : decode cX8_commonOfTen 3 = .ok (.iload_n 1, 1) := by decide +kernel
theorem dX8_commonOfTen_4 : decode cX8_commonOfTen 4 = .ok (.iconst 1, 1) := by decide +kernel
theorem dX8_commonOfTen_5 : decode cX8_commonOfTen 5 = .ok (.if_icmp .le 24, 3) := by decide +kernel
theorem dX8_commonOfTen_8 : decode cX8_commonOfTen 8 = .ok (.bipush 10, 2) := by decide +kernel
theorem dX8_commonOfTen_10 : decode cX8_commonOfTen 10 = .ok (.iload_n 1, 1) := by decide +kernel
theorem dX8_commonOfTen_11 : decode cX8_commonOfTen 11 = .ok (.irem, 1) := by decide +kernel
theorem dX8_commonOfTen_12 : decode cX8_commonOfTen 12 = .ok (.ifCond .ne 11, 3) := by decide +kernel
theorem dX8_commonOfTen_15 : decode cX8_commonOfTen 15 = .ok (.iload_n 0, 1) := by decide +kernel
theorem dX8_commonOfTen_16 : decode cX8_commonOfTen 16 = .ok (.iload_n 1, 1) := by decide +kernel
theorem dX8_commonOfTen_17 : decode cX8_commonOfTen 17 = .ok (.irem, 1) := by decide +kernel
theorem dX8_commonOfTen_18 : decode cX8_commonOfTen 18 = .ok (.ifCond .ne 5, 3) := by decide +kernel
theorem dX8_commonOfTen_21 : decode cX8_commonOfTen 21 = .ok (.iload_n 1, 1) := by decide +kernel
theorem dX8_commonOfTen_22 : decode cX8_commonOfTen 22 = .ok (.ireturn, 1) := by decide +kernel
theorem dX8_commonOfTen_23 : decode cX8_commonOfTen 23 = .ok (.iinc 1 (-1), 3) := by decide +kernel
theorem dX8_commonOfTen_26 : decode cX8_commonOfTen 26 = .ok (.goto (-23), 3) := by decide +kernel
theorem dX8_commonOfTen_29 : decode cX8_commonOfTen 29 = .ok (.iconst 1, 1) := by decide +kernel
theorem dX8_commonOfTen_30 : decode cX8_commonOfTen 30 = .ok (.ireturn, 1) := by decide +kernel
theorem dX8_planSingles_0 : decode cX8_planSingles 0 = .ok (.iconst 0, 1) := by decide +kernel
theorem dX8_planSingles_1 : decode cX8_planSingles 1 = .ok (.istore_n 1, 1) := by decide +kernel
theorem dX8_planSingles_2 : decode cX8_planSingles 2 = .ok (.iconst 0, 1) := by decide +kernel
theorem dX8_planSingles_3 : decode cX8_planSingles 3 = .ok (.istore_n 2, 1) := by decide +kernel
theorem dX8_planSingles_4 : decode cX8_planSingles 4 = .ok (.iload_n 2, 1) := by decide +kernel
theorem dX8_planSingles_5 : decode cX8_planSingles 5 = .ok (.bipush 16, 2) := by decide +kernel
theorem dX8_planSingles_7 : decode cX8_planSingles 7 = .ok (.if_icmp .ge 38, 3) := by decide +kernel
theorem dX8_planSingles_10 : decode cX8_planSingles 10 = .ok (.iload_n 1, 1) := by decide +kernel
theorem dX8_planSingles_11 : decode cX8_planSingles 11 = .ok (.aload_n 0, 1) := by decide +kernel
theorem dX8_planSingles_12 : decode cX8_planSingles 12 = .ok (.getfield 45, 3) := by decide +kernel
theorem dX8_planSingles_15 : decode cX8_planSingles 15 = .ok (.aload_n 0, 1) := by decide +kernel
theorem dX8_planSingles_16 : decode cX8_planSingles 16 = .ok (.getfield 45, 3) := by decide +kernel
theorem dX8_planSingles_19 : decode cX8_planSingles 19 = .ok (.aload_n 0, 1) := by decide +kernel
theorem dX8_planSingles_20 : decode cX8_planSingles 20 = .ok (.getfield 12, 3) := by decide +kernel
theorem dX8_planSingles_23 : decode cX8_planSingles 23 = .ok (.getfield 88, 3) := by decide +kernel
theorem dX8_planSingles_26 : decode cX8_planSingles 26 = .ok (.iconst 1, 1) := by decide +kernel
theorem dX8_planSingles_27 : decode cX8_planSingles 27 = .ok (.iload_n 2, 1) := by decide +kernel
theorem dX8_planSingles_28 : decode cX8_planSingles 28 = .ok (.ishl, 1) := by decide +kernel
theorem dX8_planSingles_29 : decode cX8_planSingles 29 = .ok (.iand, 1) := by decide +kernel
theorem dX8_planSingles_30 : decode cX8_planSingles 30 = .ok (.iconst 0, 1) := by decide +kernel
theorem dX8_planSingles_31 : decode cX8_planSingles 31 = .ok (.invokevirtual 220, 3) := by decide +kernel
theorem dX8_planSingles_34 : decode cX8_planSingles 34 = .ok (.invokevirtual 223, 3) := by decide +kernel
theorem dX8_planSingles_37 : decode cX8_planSingles 37 = .ok (.iadd, 1) := by decide +kernel
theorem dX8_planSingles_38 : decode cX8_planSingles 38 = .ok (.istore_n 1, 1) := by decide +kernel
theorem dX8_planSingles_39 : decode cX8_planSingles 39 = .ok (.iinc 2 1, 3) := by decide +kernel
theorem dX8_planSingles_42 : decode cX8_planSingles 42 = .ok (.goto (-38), 3) := by decide +kernel
theorem dX8_planSingles_45 : decode cX8_planSingles 45 = .ok (.iconst 0, 1) := by decide +kernel
theorem dX8_planSingles_46 : decode cX8_planSingles 46 = .ok (.istore_n 2, 1) := by decide +kernel
theorem dX8_planSingles_47 : decode cX8_planSingles 47 = .ok (.iload_n 2, 1) := by decide +kernel
theorem dX8_planSingles_48 : decode cX8_planSingles 48 = .ok (.bipush 16, 2) := by decide +kernel
theorem dX8_planSingles_50 : decode cX8_planSingles 50 = .ok (.if_icmp .ge 38, 3) := by decide +kernel
theorem dX8_planSingles_53 : decode cX8_planSingles 53 = .ok (.iload_n 1, 1) := by decide +kernel
theorem dX8_planSingles_54 : decode cX8_planSingles 54 = .ok (.aload_n 0, 1) := by decide +kernel
theorem dX8_planSingles_55 : decode cX8_planSingles 55 = .ok (.getfield 45, 3) := by decide +kernel
theorem dX8_planSingles_58 : decode cX8_planSingles 58 = .ok (.aload_n 0, 1) := by decide +kernel
theorem dX8_planSingles_59 : decode cX8_planSingles 59 = .ok (.getfield 45, 3) := by decide +kernel
theorem dX8_planSingles_62 : decode cX8_planSingles 62 = .ok (.iconst 0, 1) := by decide +kernel
theorem dX8_planSingles_63 : decode cX8_planSingles 63 = .ok (.aload_n 0, 1) := by decide +kernel
theorem dX8_planSingles_64 : decode cX8_planSingles 64 = .ok (.getfield 12, 3) := by decide +kernel
theorem dX8_planSingles_67 : decode cX8_planSingles 67 = .ok (.getfield 72, 3) := by decide +kernel
theorem dX8_planSingles_70 : decode cX8_planSingles 70 = .ok (.iconst 1, 1) := by decide +kernel
theorem dX8_planSingles_71 : decode cX8_planSingles 71 = .ok (.iload_n 2, 1) := by decide +kernel
theorem dX8_planSingles_72 : decode cX8_planSingles 72 = .ok (.ishl, 1) := by decide +kernel
theorem dX8_planSingles_73 : decode cX8_planSingles 73 = .ok (.iand, 1) := by decide +kernel
theorem dX8_planSingles_74 : decode cX8_planSingles 74 = .ok (.invokevirtual 220, 3) := by decide +kernel
theorem dX8_planSingles_77 : decode cX8_planSingles 77 = .ok (.invokevirtual 223, 3) := by decide +kernel
theorem dX8_planSingles_80 : decode cX8_planSingles 80 = .ok (.iadd, 1) := by decide +kernel
theorem dX8_planSingles_81 : decode cX8_planSingles 81 = .ok (.istore_n 1, 1) := by decide +kernel
theorem dX8_planSingles_82 : decode cX8_planSingles 82 = .ok (.iinc 2 1, 3) := by decide +kernel
theorem dX8_planSingles_85 : decode cX8_planSingles 85 = .ok (.goto (-38), 3) := by decide +kernel
theorem dX8_planSingles_88 : decode cX8_planSingles 88 = .ok (.iload_n 1, 1) := by decide +kernel
theorem dX8_planSingles_89 : decode cX8_planSingles 89 = .ok (.ireturn, 1) := by decide +kernel
theorem dX8_doEvents_0 : decode cX8_doEvents 0 = .ok (.iconst 0, 1) := by decide +kernel
theorem dX8_doEvents_1 : decode cX8_doEvents 1 = .ok (.istore_n 1, 1) := by decide +kernel
theorem dX8_doEvents_2 : decode cX8_doEvents 2 = .ok (.iconst 0, 1) := by decide +kernel
theorem dX8_doEvents_3 : decode cX8_doEvents 3 = .ok (.istore_n 2, 1) := by decide +kernel
theorem dX8_doEvents_4 : decode cX8_doEvents 4 = .ok (.iconst 0, 1) := by decide +kernel
theorem dX8_doEvents_5 : decode cX8_doEvents 5 = .ok (.istore_n 3, 1) := by decide +kernel
theorem dX8_doEvents_6 : decode cX8_doEvents 6 = .ok (.iload_n 3, 1) := by decide +kernel
theorem dX8_doEvents_7 : decode cX8_doEvents 7 = .ok (.aload_n 0, 1) := by decide +kernel
theorem dX8_doEvents_8 : decode cX8_doEvents 8 = .ok (.getfield 32, 3) := by decide +kernel
theorem dX8_doEvents_11 : decode cX8_doEvents 11 = .ok (.getfield 235, 3) := by decide +kernel
theorem dX8_doEvents_14 : decode cX8_doEvents 14 = .ok (.if_icmp .ge 72, 3) := by decide +kernel
theorem dX8_doEvents_17 : decode cX8_doEvents 17 = .ok (.aload_n 0, 1) := by decide +kernel
theorem dX8_doEvents_18 : decode cX8_doEvents 18 = .ok (.getfield 32, 3) := by decide +kernel
theorem dX8_doEvents_21 : decode cX8_doEvents 21 = .ok (.getfield 310, 3) := by decide +kernel
theorem dX8_doEvents_24 : decode cX8_doEvents 24 = .ok (.iload_n 3, 1) := by decide +kernel
theorem dX8_doEvents_25 : decode cX8_doEvents 25 = .ok (.caload, 1) := by decide +kernel
theorem dX8_doEvents_26 : decode cX8_doEvents 26 = .ok (.istore 4, 2) := by decide +kernel
theorem dX8_doEvents_28 : decode cX8_doEvents 28 = .ok (.iload 4, 2) := by decide +kernel
theorem dX8_doEvents_30 : decode cX8_doEvents 30 = .ok (.bipush 43, 2) := by decide +kernel
theorem dX8_doEvents_32 : decode cX8_doEvents 32 = .ok (.if_icmp .eq 10, 3) := by decide +kernel
theorem dX8_doEvents_35 : decode cX8_doEvents 35 = .ok (.iload 4, 2) := by decide +kernel
theorem dX8_doEvents_37 : decode cX8_doEvents 37 = .ok (.bipush 45, 2) := by decide +kernel
theorem dX8_doEvents_39 : decode cX8_doEvents 39 = .ok (.if_icmp .ne 19, 3) := by decide +kernel
theorem dX8_doEvents_42 : decode cX8_doEvents 42 = .ok (.iload 4, 2) := by decide +kernel
theorem dX8_doEvents_44 : decode cX8_doEvents 44 = .ok (.bipush 43, 2) := by decide +kernel
theorem dX8_doEvents_46 : decode cX8_doEvents 46 = .ok (.if_icmp .ne 7, 3) := by decide +kernel
theorem dX8_doEvents_49 : decode cX8_doEvents 49 = .ok (.iconst 1, 1) := by decide +kernel
theorem dX8_doEvents_50 : decode cX8_doEvents 50 = .ok (.goto 4, 3) := by decide +kernel
theorem dX8_doEvents_53 : decode cX8_doEvents 53 = .ok (.iconst 0, 1) := by decide +kernel
theorem dX8_doEvents_54 : decode cX8_doEvents 54 = .ok (.istore_n 2, 1) := by decide +kernel
theorem dX8_doEvents_55 : decode cX8_doEvents 55 = .ok (.goto 25, 3) := by decide +kernel
theorem dX8_doEvents_58 : decode cX8_doEvents 58 = .ok (.iload 4, 2) := by decide +kernel
theorem dX8_doEvents_60 : decode cX8_doEvents 60 = .ok (.bipush 32, 2) := by decide +kernel
theorem dX8_doEvents_62 : decode cX8_doEvents 62 = .ok (.if_icmp .eq 18, 3) := by decide +kernel
theorem dX8_doEvents_65 : decode cX8_doEvents 65 = .ok (.aload_n 0, 1) := by decide +kernel
theorem dX8_doEvents_66 : decode cX8_doEvents 66 = .ok (.iload 4, 2) := by decide +kernel
theorem dX8_doEvents_68 : decode cX8_doEvents 68 = .ok (.iload_n 2, 1) := by decide +kernel
theorem dX8_doEvents_69 : decode cX8_doEvents 69 = .ok (.invokevirtual 314, 3) := by decide +kernel
theorem dX8_doEvents_72 : decode cX8_doEvents 72 = .ok (.ifCond .ne 5, 3) := by decide +kernel
theorem dX8_doEvents_75 : decode cX8_doEvents 75 = .ok (.iload_n 1, 1) := by decide +kernel
theorem dX8_doEvents_76 : decode cX8_doEvents 76 = .ok (.ireturn, 1) := by decide +kernel
theorem dX8_doEvents_77 : decode cX8_doEvents 77 = .ok (.iinc 1 1, 3) := by decide +kernel
theorem dX8_doEvents_80 : decode cX8_doEvents 80 = .ok (.iinc 3 1, 3) := by decide +kernel
theorem dX8_doEvents_83 : decode cX8_doEvents 83 = .ok (.goto (-77), 3) := by decide +kernel
theorem dX8_doEvents_86 : decode cX8_doEvents 86 = .ok (.iload_n 1, 1) := by decide +kernel
theorem dX8_doEvents_87 : decode cX8_doEvents 87 = .ok (.ireturn, 1) := by decide +kernel
theorem dX8_doEvent_0 : decode cX8_doEvent 0 = .ok (.iload_n 1, 1) := by decide +kernel
theorem dX8_doEvent_1 : decode cX8_doEvent 1 = .ok (.bipush 33, 2) := by decide +kernel
theorem dX8_doEvent_3 : decode cX8_doEvent 3 = .ok (.if_icmp .ne 11, 3) := by decide +kernel
theorem dX8_doEvent_6 : decode cX8_doEvent 6 = .ok (.aload_n 0, 1) := by decide +kernel
theorem dX8_doEvent_7 : decode cX8_doEvent 7 = .ok (.getfield 12, 3) := by decide +kernel
theorem dX8_doEvent_10 : decode cX8_doEvent 10 = .ok (.invokevirtual 318, 3) := by decide +kernel
theorem dX8_doEvent_13 : decode cX8_doEvent 13 = .ok (.ireturn, 1) := by decide +kernel
theorem dX8_doEvent_14 : decode cX8_doEvent 14 = .ok (.iload_n 1, 1) := by decide +kernel
theorem dX8_doEvent_15 : decode cX8_doEvent 15 = .ok (.invokestatic 322, 3) := by decide +kernel
theorem dX8_doEvent_18 : decode cX8_doEvent 18 = .ok (.istore_n 3, 1) := by decide +kernel
theorem dX8_doEvent_19 : decode cX8_doEvent 19 = .ok (.iload_n 3, 1) := by decide +kernel
theorem dX8_doEvent_20 : decode cX8_doEvent 20 = .ok (.invokestatic 57, 3) := by decide +kernel
theorem dX8_doEvent_23 : decode cX8_doEvent 23 = .ok (.ifCond .eq 5, 3) := by decide +kernel
theorem dX8_doEvent_26 : decode cX8_doEvent 26 = .ok (.iconst 0, 1) := by decide +kernel
theorem dX8_doEvent_27 : decode cX8_doEvent 27 = .ok (.ireturn, 1) := by decide +kernel
theorem dX8_doEvent_28 : decode cX8_doEvent 28 = .ok (.iload_n 2, 1) := by decide +kernel
theorem dX8_doEvent_29 : decode cX8_doEvent 29 = .ok (.ifCond .eq 14, 3) := by decide +kernel
theorem dX8_doEvent_32 : decode cX8_doEvent 32 = .ok (.aload_n 0, 1) := by decide +kernel
theorem dX8_doEvent_33 : decode cX8_doEvent 33 = .ok (.getfield 12, 3) := by decide +kernel
theorem dX8_doEvent_36 : decode cX8_doEvent 36 = .ok (.iload_n 3, 1) := by decide +kernel
theorem dX8_doEvent_37 : decode cX8_doEvent 37 = .ok (.invokevirtual 326, 3) := by decide +kernel
theorem dX8_doEvent_40 : decode cX8_doEvent 40 = .ok (.goto 11, 3) := by decide +kernel
theorem dX8_doEvent_43 : decode cX8_doEvent 43 = .ok (.aload_n 0, 1) := by decide +kernel
theorem dX8_doEvent_44 : decode cX8_doEvent 44 = .ok (.getfield 12, 3) := by decide +kernel
theorem dX8_doEvent_47 : decode cX8_doEvent 47 = .ok (.iload_n 3, 1) := by decide +kernel
theorem dX8_doEvent_48 : decode cX8_doEvent 48 = .ok (.invokevirtual 329, 3) := by decide +kernel
theorem dX8_doEvent_51 : decode cX8_doEvent 51 = .ok (.ireturn, 1) := by decide +kernel
theorem dX8_driftOnce_0 : decode cX8_driftOnce 0 = .ok (.aload_n 0, 1) := by decide +kernel
theorem dX8_driftOnce_1 : decode cX8_driftOnce 1 = .ok (.getfield 12, 3) := by decide +kernel
theorem dX8_driftOnce_4 : decode cX8_driftOnce 4 = .ok (.aload_n 0, 1) := by decide +kernel
theorem dX8_driftOnce_5 : decode cX8_driftOnce 5 = .ok (.getfield 12, 3) := by decide +kernel
theorem dX8_driftOnce_8 : decode cX8_driftOnce 8 = .ok (.getfield 254, 3) := by decide +kernel
theorem dX8_driftOnce_11 : decode cX8_driftOnce 11 = .ok (.ldc_w 332, 3) := by decide +kernel
theorem dX8_driftOnce_14 : decode cX8_driftOnce 14 = .ok (.imul, 1) := by decide +kernel
theorem dX8_driftOnce_15 : decode cX8_driftOnce 15 = .ok (.sipush 12345, 3) := by decide +kernel
theorem dX8_driftOnce_18 : decode cX8_driftOnce 18 = .ok (.iadd, 1) := by decide +kernel
theorem dX8_driftOnce_19 : decode cX8_driftOnce 19 = .ok (.ldc_w 333, 3) := by decide +kernel
theorem dX8_driftOnce_22 : decode cX8_driftOnce 22 = .ok (.iand, 1) := by decide +kernel
theorem dX8_driftOnce_23 : decode cX8_driftOnce 23 = .ok (.putfield 254, 3) := by decide +kernel
theorem dX8_driftOnce_26 : decode cX8_driftOnce 26 = .ok (.aload_n 0, 1) := by decide +kernel
theorem dX8_driftOnce_27 : decode cX8_driftOnce 27 = .ok (.getfield 12, 3) := by decide +kernel
theorem dX8_driftOnce_30 : decode cX8_driftOnce 30 = .ok (.getfield 254, 3) := by decide +kernel
theorem dX8_driftOnce_33 : decode cX8_driftOnce 33 = .ok (.bipush 16, 2) := by decide +kernel
theorem dX8_driftOnce_35 : decode cX8_driftOnce 35 = .ok (.iushr, 1) := by decide +kernel
theorem dX8_driftOnce_36 : decode cX8_driftOnce 36 = .ok (.istore_n 1, 1) := by decide +kernel
theorem dX8_driftOnce_37 : decode cX8_driftOnce 37 = .ok (.iload_n 1, 1) := by decide +kernel
theorem dX8_driftOnce_38 : decode cX8_driftOnce 38 = .ok (.bipush 16, 2) := by decide +kernel
theorem dX8_driftOnce_40 : decode cX8_driftOnce 40 = .ok (.idiv, 1) := by decide +kernel
theorem dX8_driftOnce_41 : decode cX8_driftOnce 41 = .ok (.bipush 16, 2) := by decide +kernel
theorem dX8_driftOnce_43 : decode cX8_driftOnce 43 = .ok (.irem, 1) := by decide +kernel
theorem dX8_driftOnce_44 : decode cX8_driftOnce 44 = .ok (.istore_n 2, 1) := by decide +kernel
theorem dX8_driftOnce_45 : decode cX8_driftOnce 45 = .ok (.iload_n 1, 1) := by decide +kernel
theorem dX8_driftOnce_46 : decode cX8_driftOnce 46 = .ok (.bipush 8, 2) := by decide +kernel
theorem dX8_driftOnce_48 : decode cX8_driftOnce 48 = .ok (.irem, 1) := by decide +kernel
theorem dX8_driftOnce_49 : decode cX8_driftOnce 49 = .ok (.tableswitch 111 4 7 #[31, 31, 42, 88], 31) := by decide +kernel
theorem dX8_driftOnce_80 : decode cX8_driftOnce 80 = .ok (.aload_n 0, 1) := by decide +kernel
theorem dX8_driftOnce_81 : decode cX8_driftOnce 81 = .ok (.getfield 12, 3) := by decide +kernel
theorem dX8_driftOnce_84 : decode cX8_driftOnce 84 = .ok (.invokevirtual 318, 3) := by decide +kernel
theorem dX8_driftOnce_87 : decode cX8_driftOnce 87 = .ok (.pop, 1) := by decide +kernel
theorem dX8_driftOnce_88 : decode cX8_driftOnce 88 = .ok (.goto 107, 3) := by decide +kernel
theorem dX8_driftOnce_91 : decode cX8_driftOnce 91 = .ok (.aload_n 0, 1) := by decide +kernel
theorem dX8_driftOnce_92 : decode cX8_driftOnce 92 = .ok (.getfield 12, 3) := by decide +kernel
theorem dX8_driftOnce_95 : decode cX8_driftOnce 95 = .ok (.iload_n 2, 1) := by decide +kernel
theorem dX8_driftOnce_96 : decode cX8_driftOnce 96 = .ok (.invokevirtual 98, 3) := by decide +kernel
theorem dX8_driftOnce_99 : decode cX8_driftOnce 99 = .ok (.ifCond .eq 15, 3) := by decide +kernel
theorem dX8_driftOnce_102 : decode cX8_driftOnce 102 = .ok (.aload_n 0, 1) := by decide +kernel
theorem dX8_driftOnce_103 : decode cX8_driftOnce 103 = .ok (.getfield 12, 3) := by decide +kernel
theorem dX8_driftOnce_106 : decode cX8_driftOnce 106 = .ok (.iload_n 2, 1) := by decide +kernel
theorem dX8_driftOnce_107 : decode cX8_driftOnce 107 = .ok (.invokevirtual 104, 3) := by decide +kernel
theorem dX8_driftOnce_110 : decode cX8_driftOnce 110 = .ok (.pop, 1) := by decide +kernel
theorem dX8_driftOnce_111 : decode cX8_driftOnce 111 = .ok (.goto 84, 3) := by decide +kernel
theorem dX8_driftOnce_114 : decode cX8_driftOnce 114 = .ok (.aload_n 0, 1) := by decide +kernel
theorem dX8_driftOnce_115 : decode cX8_driftOnce 115 = .ok (.getfield 12, 3) := by decide +kernel
theorem dX8_driftOnce_118 : decode cX8_driftOnce 118 = .ok (.iload_n 2, 1) := by decide +kernel
theorem dX8_driftOnce_119 : decode cX8_driftOnce 119 = .ok (.invokevirtual 101, 3) := by decide +kernel
theorem dX8_driftOnce_122 : decode cX8_driftOnce 122 = .ok (.ifCond .eq 73, 3) := by decide +kernel
theorem dX8_driftOnce_125 : decode cX8_driftOnce 125 = .ok (.aload_n 0, 1) := by decide +kernel
theorem dX8_driftOnce_126 : decode cX8_driftOnce 126 = .ok (.getfield 12, 3) := by decide +kernel
theorem dX8_driftOnce_129 : decode cX8_driftOnce 129 = .ok (.iload_n 2, 1) := by decide +kernel
theorem dX8_driftOnce_130 : decode cX8_driftOnce 130 = .ok (.invokevirtual 107, 3) := by decide +kernel
theorem dX8_driftOnce_133 : decode cX8_driftOnce 133 = .ok (.pop, 1) := by decide +kernel
theorem dX8_driftOnce_134 : decode cX8_driftOnce 134 = .ok (.goto 61, 3) := by decide +kernel
theorem dX8_driftOnce_137 : decode cX8_driftOnce 137 = .ok (.aload_n 0, 1) := by decide +kernel
theorem dX8_driftOnce_138 : decode cX8_driftOnce 138 = .ok (.getfield 12, 3) := by decide +kernel
theorem dX8_driftOnce_141 : decode cX8_driftOnce 141 = .ok (.iload_n 2, 1) := by decide +kernel
theorem dX8_driftOnce_142 : decode cX8_driftOnce 142 = .ok (.invokevirtual 114, 3) := by decide +kernel
theorem dX8_driftOnce_145 : decode cX8_driftOnce 145 = .ok (.ifCond .ne 50, 3) := by decide +kernel
theorem dX8_driftOnce_148 : decode cX8_driftOnce 148 = .ok (.aload_n 0, 1) := by decide +kernel
theorem dX8_driftOnce_149 : decode cX8_driftOnce 149 = .ok (.getfield 12, 3) := by decide +kernel
theorem dX8_driftOnce_152 : decode cX8_driftOnce 152 = .ok (.iload_n 2, 1) := by decide +kernel
theorem dX8_driftOnce_153 : decode cX8_driftOnce 153 = .ok (.invokevirtual 117, 3) := by decide +kernel
theorem dX8_driftOnce_156 : decode cX8_driftOnce 156 = .ok (.pop, 1) := by decide +kernel
theorem dX8_driftOnce_157 : decode cX8_driftOnce 157 = .ok (.goto 38, 3) := by decide +kernel
theorem dX8_driftOnce_160 : decode cX8_driftOnce 160 = .ok (.aload_n 0, 1) := by decide +kernel
theorem dX8_driftOnce_161 : decode cX8_driftOnce 161 = .ok (.getfield 12, 3) := by decide +kernel
theorem dX8_driftOnce_164 : decode cX8_driftOnce 164 = .ok (.getfield 132, 3) := by decide +kernel
theorem dX8_driftOnce_167 : decode cX8_driftOnce 167 = .ok (.iload_n 2, 1) := by decide +kernel
theorem dX8_driftOnce_168 : decode cX8_driftOnce 168 = .ok (.invokevirtual 135, 3) := by decide +kernel
theorem dX8_driftOnce_171 : decode cX8_driftOnce 171 = .ok (.ifCond .eq 15, 3) := by decide +kernel
theorem dX8_driftOnce_174 : decode cX8_driftOnce 174 = .ok (.aload_n 0, 1) := by decide +kernel
theorem dX8_driftOnce_175 : decode cX8_driftOnce 175 = .ok (.getfield 12, 3) := by decide +kernel
theorem dX8_driftOnce_178 : decode cX8_driftOnce 178 = .ok (.iload_n 2, 1) := by decide +kernel
theorem dX8_driftOnce_179 : decode cX8_driftOnce 179 = .ok (.invokevirtual 329, 3) := by decide +kernel
theorem dX8_driftOnce_182 : decode cX8_driftOnce 182 = .ok (.pop, 1) := by decide +kernel
theorem dX8_driftOnce_183 : decode cX8_driftOnce 183 = .ok (.goto 12, 3) := by decide +kernel
theorem dX8_driftOnce_186 : decode cX8_driftOnce 186 = .ok (.aload_n 0, 1) := by decide +kernel
theorem dX8_driftOnce_187 : decode cX8_driftOnce 187 = .ok (.getfield 12, 3) := by decide +kernel
theorem dX8_driftOnce_190 : decode cX8_driftOnce 190 = .ok (.iload_n 2, 1) := by decide +kernel
theorem dX8_driftOnce_191 : decode cX8_driftOnce 191 = .ok (.invokevirtual 326, 3) := by decide +kernel
theorem dX8_driftOnce_194 : decode cX8_driftOnce 194 = .ok (.pop, 1) := by decide +kernel
theorem dX8_driftOnce_195 : decode cX8_driftOnce 195 = .ok (.return_, 1) := by decide +kernel
theorem dX8_toldLetters_0 : decode cX8_toldLetters 0 = .ok (.iload_n 2, 1) := by decide +kernel
theorem dX8_toldLetters_1 : decode cX8_toldLetters 1 = .ok (.istore 4, 2) := by decide +kernel
theorem dX8_toldLetters_3 : decode cX8_toldLetters 3 = .ok (.iload 4, 2) := by decide +kernel
theorem dX8_toldLetters_5 : decode cX8_toldLetters 5 = .ok (.iload_n 2, 1) := by decide +kernel
theorem dX8_toldLetters_6 : decode cX8_toldLetters 6 = .ok (.iload_n 3, 1) := by decide +kernel
theorem dX8_toldLetters_7 : decode cX8_toldLetters 7 = .ok (.iadd, 1) := by decide +kernel
theorem dX8_toldLetters_8 : decode cX8_toldLetters 8 = .ok (.if_icmp .ge 44, 3) := by decide +kernel
theorem dX8_toldLetters_11 : decode cX8_toldLetters 11 = .ok (.aload_n 1, 1) := by decide +kernel
theorem dX8_toldLetters_12 : decode cX8_toldLetters 12 = .ok (.getfield 280, 3) := by decide +kernel
theorem dX8_toldLetters_15 : decode cX8_toldLetters 15 = .ok (.iload 4, 2) := by decide +kernel
theorem dX8_toldLetters_17 : decode cX8_toldLetters 17 = .ok (.laload, 1) := by decide +kernel
theorem dX8_toldLetters_18 : decode cX8_toldLetters 18 = .ok (.lstore 5, 2) := by decide +kernel
theorem dX8_toldLetters_20 : decode cX8_toldLetters 20 = .ok (.lload 5, 2) := by decide +kernel
theorem dX8_toldLetters_22 : decode cX8_toldLetters 22 = .ok (.lconst 0, 1) := by decide +kernel
theorem dX8_toldLetters_23 : decode cX8_toldLetters 23 = .ok (.lcmp, 1) := by decide +kernel
theorem dX8_toldLetters_24 : decode cX8_toldLetters 24 = .ok (.ifCond .lt 20, 3) := by decide +kernel
theorem dX8_toldLetters_27 : decode cX8_toldLetters 27 = .ok (.lload 5, 2) := by decide +kernel
theorem dX8_toldLetters_29 : decode cX8_toldLetters 29 = .ok (.aload_n 0, 1) := by decide +kernel
theorem dX8_toldLetters_30 : decode cX8_toldLetters 30 = .ok (.getfield 12, 3) := by decide +kernel
theorem dX8_toldLetters_33 : decode cX8_toldLetters 33 = .ok (.getfield 178, 3) := by decide +kernel
theorem dX8_toldLetters_36 : decode cX8_toldLetters 36 = .ok (.getfield 195, 3) := by decide +kernel
theorem dX8_toldLetters_39 : decode cX8_toldLetters 39 = .ok (.i2l, 1) := by decide +kernel
theorem dX8_toldLetters_40 : decode cX8_toldLetters 40 = .ok (.lcmp, 1) := by decide +kernel
theorem dX8_toldLetters_41 : decode cX8_toldLetters 41 = .ok (.ifCond .lt 5, 3) := by decide +kernel
theorem dX8_toldLetters_44 : decode cX8_toldLetters 44 = .ok (.iconst 0, 1) := by decide +kernel
theorem dX8_toldLetters_45 : decode cX8_toldLetters 45 = .ok (.ireturn, 1) := by decide +kernel
theorem dX8_toldLetters_46 : decode cX8_toldLetters 46 = .ok (.iinc 4 1, 3) := by decide +kernel
theorem dX8_toldLetters_49 : decode cX8_toldLetters 49 = .ok (.goto (-46), 3) := by decide +kernel
theorem dX8_toldLetters_52 : decode cX8_toldLetters 52 = .ok (.iconst 1, 1) := by decide +kernel
theorem dX8_toldLetters_53 : decode cX8_toldLetters 53 = .ok (.ireturn, 1) := by decide +kernel
theorem dX9_in_0 : decode cX9_in 0 = .ok (.lload_n 0, 1) := by decide +kernel
theorem dX9_in_1 : decode cX9_in 1 = .ok (.lload_n 2, 1) := by decide +kernel
theorem dX9_in_2 : decode cX9_in 2 = .ok (.lcmp, 1) := by decide +kernel
theorem dX9_in_3 : decode cX9_in 3 = .ok (.ifCond .lt 14, 3) := by decide +kernel
theorem dX9_in_6 : decode cX9_in 6 = .ok (.lload_n 0, 1) := by decide +kernel
theorem dX9_in_7 : decode cX9_in 7 = .ok (.lload 4, 2) := by decide +kernel
theorem dX9_in_9 : decode cX9_in 9 = .ok (.lcmp, 1) := by decide +kernel
theorem dX9_in_10 : decode cX9_in 10 = .ok (.ifCond .gt 7, 3) := by decide +kernel
theorem dX9_in_13 : decode cX9_in 13 = .ok (.iconst 1, 1) := by decide +kernel
theorem dX9_in_14 : decode cX9_in 14 = .ok (.goto 4, 3) := by decide +kernel
theorem dX9_in_17 : decode cX9_in 17 = .ok (.iconst 0, 1) := by decide +kernel
theorem dX9_in_18 : decode cX9_in 18 = .ok (.ireturn, 1) := by decide +kernel
theorem dX9_init_0 : decode cX9_init 0 = .ok (.aload_n 0, 1) := by decide +kernel
theorem dX9_init_1 : decode cX9_init 1 = .ok (.invokespecial 1, 3) := by decide +kernel
theorem dX9_init_4 : decode cX9_init 4 = .ok (.aload_n 0, 1) := by decide +kernel
theorem dX9_init_5 : decode cX9_init 5 = .ok (.sipush 752, 3) := by decide +kernel
theorem dX9_init_8 : decode cX9_init 8 = .ok (.newarray .int, 2) := by decide +kernel
theorem dX9_init_10 : decode cX9_init 10 = .ok (.putfield 7, 3) := by decide +kernel
theorem dX9_init_13 : decode cX9_init 13 = .ok (.aload_n 0, 1) := by decide +kernel
theorem dX9_init_14 : decode cX9_init 14 = .ok (.bipush 16, 2) := by decide +kernel
theorem dX9_init_16 : decode cX9_init 16 = .ok (.newarray .int, 2) := by decide +kernel
theorem dX9_init_18 : decode cX9_init 18 = .ok (.putfield 13, 3) := by decide +kernel
theorem dX9_init_21 : decode cX9_init 21 = .ok (.aload_n 0, 1) := by decide +kernel
theorem dX9_init_22 : decode cX9_init 22 = .ok (.bipush 32, 2) := by decide +kernel
theorem dX9_init_24 : decode cX9_init 24 = .ok (.newarray .boolean, 2) := by decide +kernel
theorem dX9_init_26 : decode cX9_init 26 = .ok (.putfield 16, 3) := by decide +kernel
theorem dX9_init_29 : decode cX9_init 29 = .ok (.aload_n 0, 1) := by decide +kernel
theorem dX9_init_30 : decode cX9_init 30 = .ok (.bipush 32, 2) := by decide +kernel
theorem dX9_init_32 : decode cX9_init 32 = .ok (.newarray .boolean, 2) := by decide +kernel
theorem dX9_init_34 : decode cX9_init 34 = .ok (.putfield 20, 3) := by decide +kernel
theorem dX9_init_37 : decode cX9_init 37 = .ok (.aload_n 0, 1) := by decide +kernel
theorem dX9_init_38 : decode cX9_init 38 = .ok (.sipush 230, 3) := by decide +kernel
theorem dX9_init_41 : decode cX9_init 41 = .ok (.newarray .boolean, 2) := by decide +kernel
theorem dX9_init_43 : decode cX9_init 43 = .ok (.putfield 23, 3) := by decide +kernel
theorem dX9_init_46 : decode cX9_init 46 = .ok (.aload_n 0, 1) := by decide +kernel
theorem dX9_init_47 : decode cX9_init 47 = .ok (.bipush 90, 2) := by decide +kernel
theorem dX9_init_49 : decode cX9_init 49 = .ok (.newarray .int, 2) := by decide +kernel
theorem dX9_init_51 : decode cX9_init 51 = .ok (.putfield 26, 3) := by decide +kernel
theorem dX9_init_54 : decode cX9_init 54 = .ok (.aload_n 0, 1) := by decide +kernel
theorem dX9_init_55 : decode cX9_init 55 = .ok (.sipush 4512, 3) := by decide +kernel
theorem dX9_init_58 : decode cX9_init 58 = .ok (.newarray .int, 2) := by decide +kernel
theorem dX9_init_60 : decode cX9_init 60 = .ok (.putfield 29, 3) := by decide +kernel
theorem dX9_init_63 : decode cX9_init 63 = .ok (.aload_n 0, 1) := by decide +kernel
theorem dX9_init_64 : decode cX9_init 64 = .ok (.sipush 752, 3) := by decide +kernel
theorem dX9_init_67 : decode cX9_init 67 = .ok (.newarray .int, 2) := by decide +kernel
theorem dX9_init_69 : decode cX9_init 69 = .ok (.putfield 32, 3) := by decide +kernel
theorem dX9_init_72 : decode cX9_init 72 = .ok (.aload_n 0, 1) := by decide +kernel
theorem dX9_init_73 : decode cX9_init 73 = .ok (.sipush 4512, 3) := by decide +kernel
theorem dX9_init_76 : decode cX9_init 76 = .ok (.newarray .int, 2) := by decide +kernel
theorem dX9_init_78 : decode cX9_init 78 = .ok (.putfield 35, 3) := by decide +kernel
theorem dX9_init_81 : decode cX9_init 81 = .ok (.aload_n 0, 1) := by decide +kernel
theorem dX9_init_82 : decode cX9_init 82 = .ok (.iconst (-1), 1) := by decide +kernel
theorem dX9_init_83 : decode cX9_init 83 = .ok (.putfield 38, 3) := by decide +kernel
theorem dX9_init_86 : decode cX9_init 86 = .ok (.aload_n 0, 1) := by decide +kernel
theorem dX9_init_87 : decode cX9_init 87 = .ok (.iconst 4, 1) := by decide +kernel
theorem dX9_init_88 : decode cX9_init 88 = .ok (.newarray .int, 2) := by decide +kernel
theorem dX9_init_90 : decode cX9_init 90 = .ok (.putfield 42, 3) := by decide +kernel
theorem dX9_init_93 : decode cX9_init 93 = .ok (.aload_n 0, 1) := by decide +kernel
theorem dX9_init_94 : decode cX9_init 94 = .ok (.iconst 4, 1) := by decide +kernel
theorem dX9_init_95 : decode cX9_init 95 = .ok (.newarray .int, 2) := by decide +kernel
theorem dX9_init_97 : decode cX9_init 97 = .ok (.putfield 45, 3) := by decide +kernel
theorem dX9_init_100 : decode cX9_init 100 = .ok (.aload_n 0, 1) := by decide +kernel
theorem dX9_init_101 : decode cX9_init 101 = .ok (.bipush 96, 2) := by decide +kernel
theorem dX9_init_103 : decode cX9_init 103 = .ok (.newarray .long, 2) := by decide +kernel
theorem dX9_init_105 : decode cX9_init 105 = .ok (.putfield 48, 3) := by decide +kernel
theorem dX9_init_108 : decode cX9_init 108 = .ok (.aload_n 0, 1) := by decide +kernel
theorem dX9_init_109 : decode cX9_init 109 = .ok (.bipush 24, 2) := by decide +kernel
theorem dX9_init_111 : decode cX9_init 111 = .ok (.newarray .long, 2) := by decide +kernel
theorem dX9_init_113 : decode cX9_init 113 = .ok (.putfield 52, 3) := by decide +kernel
theorem dX9_init_116 : decode cX9_init 116 = .ok (.aload_n 0, 1) := by decide +kernel
theorem dX9_init_117 : decode cX9_init 117 = .ok (.sipush 230, 3) := by decide +kernel
theorem dX9_init_120 : decode cX9_init 120 = .ok (.newarray .boolean, 2) := by decide +kernel
theorem dX9_init_122 : decode cX9_init 122 = .ok (.putfield 55, 3) := by decide +kernel
theorem dX9_init_125 : decode cX9_init 125 = .ok (.aload_n 0, 1) := by decide +kernel
theorem dX9_init_126 : decode cX9_init 126 = .ok (.getfield 7, 3) := by decide +kernel
theorem dX9_init_129 : decode cX9_init 129 = .ok (.iconst 3, 1) := by decide +kernel
theorem dX9_init_130 : decode cX9_init 130 = .ok (.iconst 1, 1) := by decide +kernel
theorem dX9_init_131 : decode cX9_init 131 = .ok (.iastore, 1) := by decide +kernel
theorem dX9_init_132 : decode cX9_init 132 = .ok (.iconst 0, 1) := by decide +kernel
theorem dX9_init_133 : decode cX9_init 133 = .ok (.istore_n 1, 1) := by decide +kernel
theorem dX9_init_134 : decode cX9_init 134 = .ok (.iload_n 1, 1) := by decide +kernel
theorem dX9_init_135 : decode cX9_init 135 = .ok (.iconst 4, 1) := by decide +kernel
theorem dX9_init_136 : decode cX9_init 136 = .ok (.if_icmp .ge 16, 3) := by decide +kernel
theorem dX9_init_139 : decode cX9_init 139 = .ok (.aload_n 0, 1) := by decide +kernel
theorem dX9_init_140 : decode cX9_init 140 = .ok (.getfield 42, 3) := by decide +kernel
theorem dX9_init_143 : decode cX9_init 143 = .ok (.iload_n 1, 1) := by decide +kernel
theorem dX9_init_144 : decode cX9_init 144 = .ok (.iconst (-1), 1) := by decide +kernel
theorem dX9_init_145 : decode cX9_init 145 = .ok (.iastore, 1) := by decide +kernel
theorem dX9_init_146 : decode cX9_init 146 = .ok (.iinc 1 1, 3) := by decide +kernel
theorem dX9_init_149 : decode cX9_init 149 = .ok (.goto (-15), 3) := by decide +kernel
theorem dX9_init_152 : decode cX9_init 152 = .ok (.return_, 1) := by decide +kernel
theorem dX9_has_0 : decode cX9_has 0 = .ok (.iload_n 0, 1) := by decide +kernel
theorem dX9_has_1 : decode cX9_has 1 = .ok (.iload_n 1, 1) := by decide +kernel
theorem dX9_has_2 : decode cX9_has 2 = .ok (.ishr, 1) := by decide +kernel
theorem dX9_has_3 : decode cX9_has 3 = .ok (.iconst 1, 1) := by decide +kernel
theorem dX9_has_4 : decode cX9_has 4 = .ok (.iand, 1) := by decide +kernel
theorem dX9_has_5 : decode cX9_has 5 = .ok (.iconst 1, 1) := by decide +kernel
theorem dX9_has_6 : decode cX9_has 6 = .ok (.if_icmp .ne 7, 3) := by decide +kernel
theorem dX9_has_9 : decode cX9_has 9 = .ok (.iconst 1, 1) := by decide +kernel
theorem dX9_has_10 : decode cX9_has 10 = .ok (.goto 4, 3) := by decide +kernel
theorem dX9_has_13 : decode cX9_has 13 = .ok (.iconst 0, 1) := by decide +kernel
theorem dX9_has_14 : decode cX9_has 14 = .ok (.ireturn, 1) := by decide +kernel
theorem dX9_bits_0 : decode cX9_bits 0 = .ok (.iconst 0, 1) := by decide +kernel
theorem dX9_bits_1 : decode cX9_bits 1 = .ok (.istore_n 1, 1) := by decide +kernel
theorem dX9_bits_2 : decode cX9_bits 2 = .ok (.iconst 0, 1) := by decide +kernel
theorem dX9_bits_3 : decode cX9_bits 3 = .ok (.istore_n 2, 1) := by decide +kernel
theorem dX9_bits_4 : decode cX9_bits 4 = .ok (.iload_n 2, 1) := by decide +kernel
theorem dX9_bits_5 : decode cX9_bits 5 = .ok (.bipush 16, 2) := by decide +kernel
theorem dX9_bits_7 : decode cX9_bits 7 = .ok (.if_icmp .ge 17, 3) := by decide +kernel
theorem dX9_bits_10 : decode cX9_bits 10 = .ok (.iload_n 1, 1) := by decide +kernel
theorem dX9_bits_11 : decode cX9_bits 11 = .ok (.iload_n 0, 1) := by decide +kernel
theorem dX9_bits_12 : decode cX9_bits 12 = .ok (.iload_n 2, 1) := by decide +kernel
theorem dX9_bits_13 : decode cX9_bits 13 = .ok (.ishr, 1) := by decide +kernel
theorem dX9_bits_14 : decode cX9_bits 14 = .ok (.iconst 1, 1) := by decide +kernel
theorem dX9_bits_15 : decode cX9_bits 15 = .ok (.iand, 1) := by decide +kernel
theorem dX9_bits_16 : decode cX9_bits 16 = .ok (.iadd, 1) := by decide +kernel
theorem dX9_bits_17 : decode cX9_bits 17 = .ok (.istore_n 1, 1) := by decide +kernel
theorem dX9_bits_18 : decode cX9_bits 18 = .ok (.iinc 2 1, 3) := by decide +kernel
theorem dX9_bits_21 : decode cX9_bits 21 = .ok (.goto (-17), 3) := by decide +kernel
theorem dX9_bits_24 : decode cX9_bits 24 = .ok (.iload_n 1, 1) := by decide +kernel
theorem dX9_bits_25 : decode cX9_bits 25 = .ok (.ireturn, 1) := by decide +kernel
theorem dX9_isMember_0 : decode cX9_isMember 0 = .ok (.iload_n 0, 1) := by decide +kernel
theorem dX9_isMember_1 : decode cX9_isMember 1 = .ok (.i2l, 1) := by decide +kernel
theorem dX9_isMember_2 : decode cX9_isMember 2 = .ok (.lconst 0, 1) := by decide +kernel
theorem dX9_isMember_3 : decode cX9_isMember 3 = .ok (.ldc2_w 58, 3) := by decide +kernel
theorem dX9_isMember_6 : decode cX9_isMember 6 = .ok (.invokestatic 60, 3) := by decide +kernel
theorem dX9_isMember_9 : decode cX9_isMember 9 = .ok (.ireturn, 1) := by decide +kernel
theorem dX9_of_0 : decode cX9_of 0 = .ok (.aload_n 0, 1) := by decide +kernel
theorem dX9_of_1 : decode cX9_of 1 = .ok (.getfield 7, 3) := by decide +kernel
theorem dX9_of_4 : decode cX9_of 4 = .ok (.iconst 4, 1) := by decide +kernel
theorem dX9_of_5 : decode cX9_of 5 = .ok (.bipush 6, 2) := by decide +kernel
theorem dX9_of_7 : decode cX9_of 7 = .ok (.iload_n 1, 1) := by decide +kernel
theorem dX9_of_8 : decode cX9_of 8 = .ok (.imul, 1) := by decide +kernel
theorem dX9_of_9 : decode cX9_of 9 = .ok (.iadd, 1) := by decide +kernel
theorem dX9_of_10 : decode cX9_of 10 = .ok (.iload_n 2, 1) := by decide +kernel
theorem dX9_of_11 : decode cX9_of 11 = .ok (.iadd, 1) := by decide +kernel
theorem dX9_of_12 : decode cX9_of 12 = .ok (.iaload, 1) := by decide +kernel
theorem dX9_of_13 : decode cX9_of 13 = .ok (.ireturn, 1) := by decide +kernel
theorem dX9_put_0 : decode cX9_put 0 = .ok (.aload_n 0, 1) := by decide +kernel
theorem dX9_put_1 : decode cX9_put 1 = .ok (.getfield 7, 3) := by decide +kernel
theorem dX9_put_4 : decode cX9_put 4 = .ok (.iconst 4, 1) := by decide +kernel
theorem dX9_put_5 : decode cX9_put 5 = .ok (.bipush 6, 2) := by decide +kernel
theorem dX9_put_7 : decode cX9_put 7 = .ok (.iload_n 1, 1) := by decide +kernel
theorem dX9_put_8 : decode cX9_put 8 = .ok (.imul, 1) := by decide +kernel
theorem dX9_put_9 : decode cX9_put 9 = .ok (.iadd, 1) := by decide +kernel
theorem dX9_put_10 : decode cX9_put 10 = .ok (.iload_n 2, 1) := by decide +kernel
theorem dX9_put_11 : decode cX9_put 11 = .ok (.iadd, 1) := by decide +kernel
theorem dX9_put_12 : decode cX9_put 12 = .ok (.iload_n 3, 1) := by decide +kernel
theorem dX9_put_13 : decode cX9_put 13 = .ok (.iastore, 1) := by decide +kernel
theorem dX9_put_14 : decode cX9_put 14 = .ok (.return_, 1) := by decide +kernel
theorem dX9_sits_0 : decode cX9_sits 0 = .ok (.aload_n 0, 1) := by decide +kernel
theorem dX9_sits_1 : decode cX9_sits 1 = .ok (.iload_n 1, 1) := by decide +kernel
theorem dX9_sits_2 : decode cX9_sits 2 = .ok (.iconst 0, 1) := by decide +kernel
theorem dX9_sits_3 : decode cX9_sits 3 = .ok (.invokevirtual 64, 3) := by decide +kernel
theorem dX9_sits_6 : decode cX9_sits 6 = .ok (.ifCond .le 7, 3) := by decide +kernel
theorem dX9_sits_9 : decode cX9_sits 9 = .ok (.iconst 1, 1) := by decide +kernel
theorem dX9_sits_10 : decode cX9_sits 10 = .ok (.goto 4, 3) := by decide +kernel
theorem dX9_sits_13 : decode cX9_sits 13 = .ok (.iconst 0, 1) := by decide +kernel
theorem dX9_sits_14 : decode cX9_sits 14 = .ok (.ireturn, 1) := by decide +kernel
theorem dX9_those_0 : decode cX9_those 0 = .ok (.iconst 0, 1) := by decide +kernel
theorem dX9_those_1 : decode cX9_those 1 = .ok (.istore_n 3, 1) := by decide +kernel
theorem dX9_those_2 : decode cX9_those 2 = .ok (.iconst 0, 1) := by decide +kernel
theorem dX9_those_3 : decode cX9_those 3 = .ok (.istore 4, 2) := by decide +kernel
theorem dX9_those_5 : decode cX9_those 5 = .ok (.iload 4, 2) := by decide +kernel
theorem dX9_those_7 : decode cX9_those 7 = .ok (.bipush 16, 2) := by decide +kernel
theorem dX9_those_9 : decode cX9_those 9 = .ok (.if_icmp .ge 56, 3) := by decide +kernel
theorem dX9_those_12 : decode cX9_those 12 = .ok (.iload_n 1, 1) := by decide +kernel
theorem dX9_those_13 : decode cX9_those 13 = .ok (.ifCond .ne 12, 3) := by decide +kernel
theorem dX9_those_16 : decode cX9_those 16 = .ok (.aload_n 0, 1) := by decide +kernel
theorem dX9_those_17 : decode cX9_those 17 = .ok (.iload 4, 2) := by decide +kernel
theorem dX9_those_19 : decode cX9_those 19 = .ok (.invokevirtual 68, 3) := by decide +kernel
theorem dX9_those_22 : decode cX9_those 22 = .ok (.goto 19, 3) := by decide +kernel
theorem dX9_those_25 : decode cX9_those 25 = .ok (.aload_n 0, 1) := by decide +kernel
theorem dX9_those_26 : decode cX9_those 26 = .ok (.iload 4, 2) := by decide +kernel
theorem dX9_those_28 : decode cX9_those 28 = .ok (.iload_n 1, 1) := by decide +kernel
theorem dX9_those_29 : decode cX9_those 29 = .ok (.invokevirtual 64, 3) := by decide +kernel
theorem dX9_those_32 : decode cX9_those 32 = .ok (.iload_n 2, 1) := by decide +kernel
theorem dX9_those_33 : decode cX9_those 33 = .ok (.if_icmp .ne 7, 3) := by decide +kernel
theorem dX9_those_36 : decode cX9_those 36 = .ok (.iconst 1, 1) := by decide +kernel
theorem dX9_those_37 : decode cX9_those 37 = .ok (.goto 4, 3) := by decide +kernel
theorem dX9_those_40 : decode cX9_those 40 = .ok (.iconst 0, 1) := by decide +kernel
theorem dX9_those_41 : decode cX9_those 41 = .ok (.istore 5, 2) := by decide +kernel
theorem dX9_those_43 : decode cX9_those 43 = .ok (.iload_n 3, 1) := by decide +kernel
theorem dX9_those_44 : decode cX9_those 44 = .ok (.iload 5, 2) := by decide +kernel
theorem dX9_those_46 : decode cX9_those 46 = .ok (.ifCond .eq 10, 3) := by decide +kernel
theorem dX9_those_49 : decode cX9_those 49 = .ok (.iconst 1, 1) := by decide +kernel
theorem dX9_those_50 : decode cX9_those 50 = .ok (.iload 4, 2) := by decide +kernel
theorem dX9_those_52 : decode cX9_those 52 = .ok (.ishl, 1) := by decide +kernel
theorem dX9_those_53 : decode cX9_those 53 = .ok (.goto 4, 3) := by decide +kernel
theorem dX9_those_56 : decode cX9_those 56 = .ok (.iconst 0, 1) := by decide +kernel
theorem dX9_those_57 : decode cX9_those 57 = .ok (.ior, 1) := by decide +kernel
theorem dX9_those_58 : decode cX9_those 58 = .ok (.istore_n 3, 1) := by decide +kernel
theorem dX9_those_59 : decode cX9_those 59 = .ok (.iinc 4 1, 3) := by decide +kernel
theorem dX9_those_62 : decode cX9_those 62 = .ok (.goto (-57), 3) := by decide +kernel
theorem dX9_those_65 : decode cX9_those 65 = .ok (.iload_n 3, 1) := by decide +kernel
theorem dX9_those_66 : decode cX9_those 66 = .ok (.ireturn, 1) := by decide +kernel
theorem dX9_nodeOf_0 : decode cX9_nodeOf 0 = .ok (.aload_n 0, 1) := by decide +kernel
theorem dX9_nodeOf_1 : decode cX9_nodeOf 1 = .ok (.getfield 7, 3) := by decide +kernel
theorem dX9_nodeOf_4 : decode cX9_nodeOf 4 = .ok (.bipush 100, 2) := by decide +kernel
theorem dX9_nodeOf_6 : decode cX9_nodeOf 6 = .ok (.iload_n 1, 1) := by decide +kernel
theorem dX9_nodeOf_7 : decode cX9_nodeOf 7 = .ok (.iadd, 1) := by decide +kernel
theorem dX9_nodeOf_8 : decode cX9_nodeOf 8 = .ok (.iaload, 1) := by decide +kernel
theorem dX9_nodeOf_9 : decode cX9_nodeOf 9 = .ok (.bipush 32, 2) := by decide +kernel
theorem dX9_nodeOf_11 : decode cX9_nodeOf 11 = .ok (.irem, 1) := by decide +kernel
theorem dX9_nodeOf_12 : decode cX9_nodeOf 12 = .ok (.ireturn, 1) := by decide +kernel
theorem dX9_batchOf_0 : decode cX9_batchOf 0 = .ok (.aload_n 0, 1) := by decide +kernel
theorem dX9_batchOf_1 : decode cX9_batchOf 1 = .ok (.getfield 7, 3) := by decide +kernel
theorem dX9_batchOf_4 : decode cX9_batchOf 4 = .ok (.bipush 100, 2) := by decide +kernel
theorem dX9_batchOf_6 : decode cX9_batchOf 6 = .ok (.iload_n 1, 1) := by decide +kernel
theorem dX9_batchOf_7 : decode cX9_batchOf 7 = .ok (.iadd, 1) := by decide +kernel
theorem dX9_batchOf_8 : decode cX9_batchOf 8 = .ok (.iaload, 1) := by decide +kernel
theorem dX9_batchOf_9 : decode cX9_batchOf 9 = .ok (.bipush 32, 2) := by decide +kernel
theorem dX9_batchOf_11 : decode cX9_batchOf 11 = .ok (.idiv, 1) := by decide +kernel
theorem dX9_batchOf_12 : decode cX9_batchOf 12 = .ok (.ireturn, 1) := by decide +kernel
theorem dX9_holds_0 : decode cX9_holds 0 = .ok (.aload_n 0, 1) := by decide +kernel
theorem dX9_holds_1 : decode cX9_holds 1 = .ok (.getfield 7, 3) := by decide +kernel
theorem dX9_holds_4 : decode cX9_holds 4 = .ok (.sipush 330, 3) := by decide +kernel
theorem dX9_holds_7 : decode cX9_holds 7 = .ok (.iload_n 2, 1) := by decide +kernel
theorem dX9_holds_8 : decode cX9_holds 8 = .ok (.iadd, 1) := by decide +kernel
theorem dX9_holds_9 : decode cX9_holds 9 = .ok (.iaload, 1) := by decide +kernel
theorem dX9_holds_10 : decode cX9_holds 10 = .ok (.iload_n 1, 1) := by decide +kernel
theorem dX9_holds_11 : decode cX9_holds 11 = .ok (.invokestatic 72, 3) := by decide +kernel
theorem dX9_holds_14 : decode cX9_holds 14 = .ok (.ireturn, 1) := by decide +kernel
theorem dX9_inOf_0 : decode cX9_inOf 0 = .ok (.aload_n 0, 1) := by decide +kernel
theorem dX9_inOf_1 : decode cX9_inOf 1 = .ok (.getfield 7, 3) := by decide +kernel
theorem dX9_inOf_4 : decode cX9_inOf 4 = .ok (.sipush 560, 3) := by decide +kernel
theorem dX9_inOf_7 : decode cX9_inOf 7 = .ok (.iload_n 1, 1) := by decide +kernel
theorem dX9_inOf_8 : decode cX9_inOf 8 = .ok (.iadd, 1) := by decide +kernel
theorem dX9_inOf_9 : decode cX9_inOf 9 = .ok (.iaload, 1) := by decide +kernel
theorem dX9_inOf_10 : decode cX9_inOf 10 = .ok (.sipush 256, 3) := by decide +kernel
theorem dX9_inOf_13 : decode cX9_inOf 13 = .ok (.irem, 1) := by decide +kernel
theorem dX9_inOf_14 : decode cX9_inOf 14 = .ok (.ireturn, 1) := by decide +kernel
theorem dX9_underOf_0 : decode cX9_underOf 0 = .ok (.aload_n 0, 1) := by decide +kernel
theorem dX9_underOf_1 : decode cX9_underOf 1 = .ok (.getfield 7, 3) := by decide +kernel
theorem dX9_underOf_4 : decode cX9_underOf 4 = .ok (.sipush 560, 3) := by decide +kernel
theorem dX9_underOf_7 : decode cX9_underOf 7 = .ok (.iload_n 1, 1) := by decide +kernel
theorem dX9_underOf_8 : decode cX9_underOf 8 = .ok (.iadd, 1) := by decide +kernel
theorem dX9_underOf_9 : decode cX9_underOf 9 = .ok (.iaload, 1) := by decide +kernel
theorem dX9_underOf_10 : decode cX9_underOf 10 = .ok (.sipush 256, 3) := by decide +kernel
theorem dX9_underOf_13 : decode cX9_underOf 13 = .ok (.idiv, 1) := by decide +kernel
theorem dX9_underOf_14 : decode cX9_underOf 14 = .ok (.sipush 256, 3) := by decide +kernel
theorem dX9_underOf_17 : decode cX9_underOf 17 = .ok (.irem, 1) := by decide +kernel
theorem dX9_underOf_18 : decode cX9_underOf 18 = .ok (.ireturn, 1) := by decide +kernel
theorem dX9_batchOfLetter_0 : decode cX9_batchOfLetter 0 = .ok (.aload_n 0, 1) := by decide +kernel
theorem dX9_batchOfLetter_1 : decode cX9_batchOfLetter 1 = .ok (.getfield 7, 3) := by decide +kernel
theorem dX9_batchOfLetter_4 : decode cX9_batchOfLetter 4 = .ok (.sipush 560, 3) := by decide +kernel
theorem dX9_batchOfLetter_7 : decode cX9_batchOfLetter 7 = .ok (.iload_n 1, 1) := by decide +kernel
theorem dX9_batchOfLetter_8 : decode cX9_batchOfLetter 8 = .ok (.iadd, 1) := by decide +kernel
theorem dX9_batchOfLetter_9 : decode cX9_batchOfLetter 9 = .ok (.iaload, 1) := by decide +kernel
theorem dX9_batchOfLetter_10 : decode cX9_batchOfLetter 10 = .ok (.ldc 76, 2) := by decide +kernel
theorem dX9_batchOfLetter_12 : decode cX9_batchOfLetter 12 = .ok (.idiv, 1) := by decide +kernel
theorem dX9_batchOfLetter_13 : decode cX9_batchOfLetter 13 = .ok (.iconst 1, 1) := by decide +kernel
theorem dX9_batchOfLetter_14 : decode cX9_batchOfLetter 14 = .ok (.isub, 1) := by decide +kernel
theorem dX9_batchOfLetter_15 : decode cX9_batchOfLetter 15 = .ok (.ireturn, 1) := by decide +kernel
theorem dX9_isBeneath_0 : decode cX9_isBeneath 0 = .ok (.iconst 0, 1) := by decide +kernel
theorem dX9_isBeneath_1 : decode cX9_isBeneath 1 = .ok (.istore_n 2, 1) := by decide +kernel
theorem dX9_isBeneath_2 : decode cX9_isBeneath 2 = .ok (.iload_n 0, 1) := by decide +kernel
theorem dX9_isBeneath_3 : decode cX9_isBeneath 3 = .ok (.istore_n 3, 1) := by decide +kernel
theorem dX9_isBeneath_4 : decode cX9_isBeneath 4 = .ok (.iload_n 3, 1) := by decide +kernel
theorem dX9_isBeneath_5 : decode cX9_isBeneath 5 = .ok (.ifCond .le 25, 3) := by decide +kernel
theorem dX9_isBeneath_8 : decode cX9_isBeneath 8 = .ok (.iload_n 2, 1) := by decide +kernel
theorem dX9_isBeneath_9 : decode cX9_isBeneath 9 = .ok (.ifCond .ne 8, 3) := by decide +kernel
theorem dX9_isBeneath_12 : decode cX9_isBeneath 12 = .ok (.iload_n 3, 1) := by decide +kernel
theorem dX9_isBeneath_13 : decode cX9_isBeneath 13 = .ok (.iload_n 1, 1) := by decide +kernel
theorem dX9_isBeneath_14 : decode cX9_isBeneath 14 = .ok (.if_icmp .ne 7, 3) := by decide +kernel
theorem dX9_isBeneath_17 : decode cX9_isBeneath 17 = .ok (.iconst 1, 1) := by decide +kernel
theorem dX9_isBeneath_18 : decode cX9_isBeneath 18 = .ok (.goto 4, 3) := by decide +kernel
theorem dX9_isBeneath_21 : decode cX9_isBeneath 21 = .ok (.iconst 0, 1) := by decide +kernel
theorem dX9_isBeneath_22 : decode cX9_isBeneath 22 = .ok (.istore_n 2, 1) := by decide +kernel
theorem dX9_isBeneath_23 : decode cX9_isBeneath 23 = .ok (.iload_n 3, 1) := by decide +kernel
theorem dX9_isBeneath_24 : decode cX9_isBeneath 24 = .ok (.iconst 2, 1) := by decide +kernel
theorem dX9_isBeneath_25 : decode cX9_isBeneath 25 = .ok (.idiv, 1) := by decide +kernel
theorem dX9_isBeneath_26 : decode cX9_isBeneath 26 = .ok (.istore_n 3, 1) := by decide +kernel
theorem dX9_isBeneath_27 : decode cX9_isBeneath 27 = .ok (.goto (-23), 3) := by decide +kernel
theorem dX9_isBeneath_30 : decode cX9_isBeneath 30 = .ok (.iload_n 2, 1) := by decide +kernel
theorem dX9_isBeneath_31 : decode cX9_isBeneath 31 = .ok (.ireturn, 1) := by decide +kernel
theorem dX9_beneath_0 : decode cX9_beneath 0 = .ok (.iconst 0, 1) := by decide +kernel
theorem dX9_beneath_1 : decode cX9_beneath 1 = .ok (.istore_n 2, 1) := by decide +kernel
theorem dX9_beneath_2 : decode cX9_beneath 2 = .ok (.iconst 0, 1) := by decide +kernel
theorem dX9_beneath_3 : decode cX9_beneath 3 = .ok (.istore_n 3, 1) := by decide +kernel
theorem dX9_beneath_4 : decode cX9_beneath 4 = .ok (.iload_n 3, 1) := by decide +kernel
theorem dX9_beneath_5 : decode cX9_beneath 5 = .ok (.bipush 16, 2) := by decide +kernel
theorem dX9_beneath_7 : decode cX9_beneath 7 = .ok (.if_icmp .ge 32, 3) := by decide +kernel
theorem dX9_beneath_10 : decode cX9_beneath 10 = .ok (.iload_n 2, 1) := by decide +kernel
theorem dX9_beneath_11 : decode cX9_beneath 11 = .ok (.aload_n 0, 1) := by decide +kernel
theorem dX9_beneath_12 : decode cX9_beneath 12 = .ok (.iload_n 3, 1) := by decide +kernel
theorem dX9_beneath_13 : decode cX9_beneath 13 = .ok (.iconst 0, 1) := by decide +kernel
theorem dX9_beneath_14 : decode cX9_beneath 14 = .ok (.invokevirtual 64, 3) := by decide +kernel
theorem dX9_beneath_17 : decode cX9_beneath 17 = .ok (.iload_n 1, 1) := by decide +kernel
theorem dX9_beneath_18 : decode cX9_beneath 18 = .ok (.invokestatic 77, 3) := by decide +kernel
theorem dX9_beneath_21 : decode cX9_beneath 21 = .ok (.ifCond .eq 9, 3) := by decide +kernel
theorem dX9_beneath_24 : decode cX9_beneath 24 = .ok (.iconst 1, 1) := by decide +kernel
theorem dX9_beneath_25 : decode cX9_beneath 25 = .ok (.iload_n 3, 1) := by decide +kernel
theorem dX9_beneath_26 : decode cX9_beneath 26 = .ok (.ishl, 1) := by decide +kernel
theorem dX9_beneath_27 : decode cX9_beneath 27 = .ok (.goto 4, 3) := by decide +kernel
theorem dX9_beneath_30 : decode cX9_beneath 30 = .ok (.iconst 0, 1) := by decide +kernel
theorem dX9_beneath_31 : decode cX9_beneath 31 = .ok (.ior, 1) := by decide +kernel
theorem dX9_beneath_32 : decode cX9_beneath 32 = .ok (.istore_n 2, 1) := by decide +kernel
theorem dX9_beneath_33 : decode cX9_beneath 33 = .ok (.iinc 3 1, 3) := by decide +kernel
theorem dX9_beneath_36 : decode cX9_beneath 36 = .ok (.goto (-32), 3) := by decide +kernel
theorem dX9_beneath_39 : decode cX9_beneath 39 = .ok (.iload_n 2, 1) := by decide +kernel
theorem dX9_beneath_40 : decode cX9_beneath 40 = .ok (.ireturn, 1) := by decide +kernel
theorem dX9_keyOf_0 : decode cX9_keyOf 0 = .ok (.bipush (-4), 2) := by decide +kernel
theorem dX9_keyOf_2 : decode cX9_keyOf 2 = .ok (.istore_n 2, 1) := by decide +kernel
theorem dX9_keyOf_3 : decode cX9_keyOf 3 = .ok (.iconst 0, 1) := by decide +kernel
theorem dX9_keyOf_4 : decode cX9_keyOf 4 = .ok (.istore_n 3, 1) := by decide +kernel
theorem dX9_keyOf_5 : decode cX9_keyOf 5 = .ok (.iload_n 3, 1) := by decide +kernel
theorem dX9_keyOf_6 : decode cX9_keyOf 6 = .ok (.aload_n 0, 1) := by decide +kernel
theorem dX9_keyOf_7 : decode cX9_keyOf 7 = .ok (.getfield 7, 3) := by decide +kernel
theorem dX9_keyOf_10 : decode cX9_keyOf 10 = .ok (.iconst 0, 1) := by decide +kernel
theorem dX9_keyOf_11 : decode cX9_keyOf 11 = .ok (.iaload, 1) := by decide +kernel
theorem dX9_keyOf_12 : decode cX9_keyOf 12 = .ok (.if_icmp .ge 24, 3) := by decide +kernel
theorem dX9_keyOf_15 : decode cX9_keyOf 15 = .ok (.aload_n 0, 1) := by decide +kernel
theorem dX9_keyOf_16 : decode cX9_keyOf 16 = .ok (.iload_n 3, 1) := by decide +kernel
theorem dX9_keyOf_17 : decode cX9_keyOf 17 = .ok (.invokevirtual 80, 3) := by decide +kernel
theorem dX9_keyOf_20 : decode cX9_keyOf 20 = .ok (.iload_n 1, 1) := by decide +kernel
theorem dX9_keyOf_21 : decode cX9_keyOf 21 = .ok (.if_icmp .ne 7, 3) := by decide +kernel
theorem dX9_keyOf_24 : decode cX9_keyOf 24 = .ok (.iload_n 3, 1) := by decide +kernel
theorem dX9_keyOf_25 : decode cX9_keyOf 25 = .ok (.goto 4, 3) := by decide +kernel
theorem dX9_keyOf_28 : decode cX9_keyOf 28 = .ok (.iload_n 2, 1) := by decide +kernel
theorem dX9_keyOf_29 : decode cX9_keyOf 29 = .ok (.istore_n 2, 1) := by decide +kernel
theorem dX9_keyOf_30 : decode cX9_keyOf 30 = .ok (.iinc 3 1, 3) := by decide +kernel
theorem dX9_keyOf_33 : decode cX9_keyOf 33 = .ok (.goto (-28), 3) := by decide +kernel
theorem dX9_keyOf_36 : decode cX9_keyOf 36 = .ok (.aload_n 0, 1) := by decide +kernel
theorem dX9_keyOf_37 : decode cX9_keyOf 37 = .ok (.iload_n 1, 1) := by decide +kernel
theorem dX9_keyOf_38 : decode cX9_keyOf 38 = .ok (.invokevirtual 84, 3) := by decide +kernel
theorem dX9_keyOf_41 : decode cX9_keyOf 41 = .ok (.ifCond .ne 8, 3) := by decide +kernel
theorem dX9_keyOf_44 : decode cX9_keyOf 44 = .ok (.bipush (-4), 2) := by decide +kernel
theorem dX9_keyOf_46 : decode cX9_keyOf 46 = .ok (.goto 4, 3) := by decide +kernel
theorem dX9_keyOf_49 : decode cX9_keyOf 49 = .ok (.iload_n 2, 1) := by decide +kernel
theorem dX9_keyOf_50 : decode cX9_keyOf 50 = .ok (.ireturn, 1) := by decide +kernel
theorem dX9_isFull_0 : decode cX9_isFull 0 = .ok (.aload_n 0, 1) := by decide +kernel
theorem dX9_isFull_1 : decode cX9_isFull 1 = .ok (.getfield 7, 3) := by decide +kernel
theorem dX9_isFull_4 : decode cX9_isFull 4 = .ok (.iconst 0, 1) := by decide +kernel
theorem dX9_isFull_5 : decode cX9_isFull 5 = .ok (.iaload, 1) := by decide +kernel
theorem dX9_isFull_6 : decode cX9_isFull 6 = .ok (.sipush 200, 3) := by decide +kernel
theorem dX9_isFull_9 : decode cX9_isFull 9 = .ok (.if_icmp .ge 15, 3) := by decide +kernel
theorem dX9_isFull_12 : decode cX9_isFull 12 = .ok (.aload_n 0, 1) := by decide +kernel
theorem dX9_isFull_13 : decode cX9_isFull 13 = .ok (.getfield 7, 3) := by decide +kernel
theorem dX9_isFull_16 : decode cX9_isFull 16 = .ok (.iconst 1, 1) := by decide +kernel
theorem dX9_isFull_17 : decode cX9_isFull 17 = .ok (.iaload, 1) := by decide +kernel
theorem dX9_isFull_18 : decode cX9_isFull 18 = .ok (.sipush 160, 3) := by decide +kernel
theorem dX9_isFull_21 : decode cX9_isFull 21 = .ok (.if_icmp .lt 7, 3) := by decide +kernel
theorem dX9_isFull_24 : decode cX9_isFull 24 = .ok (.iconst 1, 1) := by decide +kernel
theorem dX9_isFull_25 : decode cX9_isFull 25 = .ok (.goto 4, 3) := by decide +kernel
theorem dX9_isFull_28 : decode cX9_isFull 28 = .ok (.iconst 0, 1) := by decide +kernel
theorem dX9_isFull_29 : decode cX9_isFull 29 = .ok (.ireturn, 1) := by decide +kernel
theorem dX9_makes_0 : decode cX9_makes 0 = .ok (.aload_n 0, 1) := by decide +kernel
theorem dX9_makes_1 : decode cX9_makes 1 = .ok (.getfield 7, 3) := by decide +kernel
theorem dX9_makes_4 : decode cX9_makes 4 = .ok (.iconst 0, 1) := by decide +kernel
theorem dX9_makes_5 : decode cX9_makes 5 = .ok (.iaload, 1) := by decide +kernel
theorem dX9_makes_6 : decode cX9_makes 6 = .ok (.istore_n 2, 1) := by decide +kernel
theorem dX9_makes_7 : decode cX9_makes 7 = .ok (.aload_n 0, 1) := by decide +kernel
theorem dX9_makes_8 : decode cX9_makes 8 = .ok (.getfield 7, 3) := by decide +kernel
theorem dX9_makes_11 : decode cX9_makes 11 = .ok (.bipush 100, 2) := by decide +kernel
theorem dX9_makes_13 : decode cX9_makes 13 = .ok (.iload_n 2, 1) := by decide +kernel
theorem dX9_makes_14 : decode cX9_makes 14 = .ok (.iadd, 1) := by decide +kernel
theorem dX9_makes_15 : decode cX9_makes 15 = .ok (.iload_n 1, 1) := by decide +kernel
theorem dX9_makes_16 : decode cX9_makes 16 = .ok (.bipush 32, 2) := by decide +kernel
theorem dX9_makes_18 : decode cX9_makes 18 = .ok (.aload_n 0, 1) := by decide +kernel
theorem dX9_makes_19 : decode cX9_makes 19 = .ok (.getfield 7, 3) := by decide +kernel
theorem dX9_makes_22 : decode cX9_makes 22 = .ok (.iconst 2, 1) := by decide +kernel
theorem dX9_makes_23 : decode cX9_makes 23 = .ok (.iaload, 1) := by decide +kernel
theorem dX9_makes_24 : decode cX9_makes 24 = .ok (.imul, 1) := by decide +kernel
theorem dX9_makes_25 : decode cX9_makes 25 = .ok (.iadd, 1) := by decide +kernel
theorem dX9_makes_26 : decode cX9_makes 26 = .ok (.iastore, 1) := by decide +kernel
theorem dX9_makes_27 : decode cX9_makes 27 = .ok (.aload_n 0, 1) := by decide +kernel
theorem dX9_makes_28 : decode cX9_makes 28 = .ok (.getfield 7, 3) := by decide +kernel
theorem dX9_makes_31 : decode cX9_makes 31 = .ok (.sipush 330, 3) := by decide +kernel
theorem dX9_makes_34 : decode cX9_makes 34 = .ok (.iload_n 2, 1) := by decide +kernel
theorem dX9_makes_35 : decode cX9_makes 35 = .ok (.iadd, 1) := by decide +kernel
theorem dX9_makes_36 : decode cX9_makes 36 = .ok (.iconst 0, 1) := by decide +kernel
theorem dX9_makes_37 : decode cX9_makes 37 = .ok (.iastore, 1) := by decide +kernel
theorem dX9_makes_38 : decode cX9_makes 38 = .ok (.aload_n 0, 1) := by decide +kernel
theorem dX9_makes_39 : decode cX9_makes 39 = .ok (.getfield 7, 3) := by decide +kernel
theorem dX9_makes_42 : decode cX9_makes 42 = .ok (.iconst 0, 1) := by decide +kernel
theorem dX9_makes_43 : decode cX9_makes 43 = .ok (.dup2, 1) := by decide +kernel
theorem dX9_makes_44 : decode cX9_makes 44 = .ok (.iaload, 1) := by decide +kernel
theorem dX9_makes_45 : decode cX9_makes 45 = .ok (.iconst 1, 1) := by decide +kernel
theorem dX9_makes_46 : decode cX9_makes 46 = .ok (.iadd, 1) := by decide +kernel
theorem dX9_makes_47 : decode cX9_makes 47 = .ok (.iastore, 1) := by decide +kernel
theorem dX9_makes_48 : decode cX9_makes 48 = .ok (.iload_n 2, 1) := by decide +kernel
theorem dX9_makes_49 : decode cX9_makes 49 = .ok (.ireturn, 1) := by decide +kernel
theorem dX9_writes_0 : decode cX9_writes 0 = .ok (.aload_n 0, 1) := by decide +kernel
theorem dX9_writes_1 : decode cX9_writes 1 = .ok (.getfield 7, 3) := by decide +kernel
theorem dX9_writes_4 : decode cX9_writes 4 = .ok (.sipush 560, 3) := by decide +kernel
theorem dX9_writes_7 : decode cX9_writes 7 = .ok (.aload_n 0, 1) := by decide +kernel
theorem dX9_writes_8 : decode cX9_writes 8 = .ok (.getfield 7, 3) := by decide +kernel
theorem dX9_writes_11 : decode cX9_writes 11 = .ok (.iconst 1, 1) := by decide +kernel
theorem dX9_writes_12 : decode cX9_writes 12 = .ok (.iaload, 1) := by decide +kernel
theorem dX9_writes_13 : decode cX9_writes 13 = .ok (.iadd, 1) := by decide +kernel
theorem dX9_writes_14 : decode cX9_writes 14 = .ok (.iload_n 1, 1) := by decide +kernel
theorem dX9_writes_15 : decode cX9_writes 15 = .ok (.sipush 256, 3) := by decide +kernel
theorem dX9_writes_18 : decode cX9_writes 18 = .ok (.iload_n 2, 1) := by decide +kernel
theorem dX9_writes_19 : decode cX9_writes 19 = .ok (.imul, 1) := by decide +kernel
theorem dX9_writes_20 : decode cX9_writes 20 = .ok (.iadd, 1) := by decide +kernel
theorem dX9_writes_21 : decode cX9_writes 21 = .ok (.ldc 76, 2) := by decide +kernel
theorem dX9_writes_23 : decode cX9_writes 23 = .ok (.iload_n 3, 1) := by decide +kernel
theorem dX9_writes_24 : decode cX9_writes 24 = .ok (.iconst 1, 1) := by decide +kernel
theorem dX9_writes_25 : decode cX9_writes 25 = .ok (.iadd, 1) := by decide +kernel
theorem dX9_writes_26 : decode cX9_writes 26 = .ok (.imul, 1) := by decide +kernel
theorem dX9_writes_27 : decode cX9_writes 27 = .ok (.iadd, 1) := by decide +kernel
theorem dX9_writes_28 : decode cX9_writes 28 = .ok (.iastore, 1) := by decide +kernel
theorem dX9_writes_29 : decode cX9_writes 29 = .ok (.aload_n 0, 1) := by decide +kernel
theorem dX9_writes_30 : decode cX9_writes 30 = .ok (.getfield 7, 3) := by decide +kernel
theorem dX9_writes_33 : decode cX9_writes 33 = .ok (.iconst 1, 1) := by decide +kernel
theorem dX9_writes_34 : decode cX9_writes 34 = .ok (.dup2, 1) := by decide +kernel
theorem dX9_writes_35 : decode cX9_writes 35 = .ok (.iaload, 1) := by decide +kernel
theorem dX9_writes_36 : decode cX9_writes 36 = .ok (.iconst 1, 1) := by decide +kernel
theorem dX9_writes_37 : decode cX9_writes 37 = .ok (.iadd, 1) := by decide +kernel
theorem dX9_writes_38 : decode cX9_writes 38 = .ok (.iastore, 1) := by decide +kernel
theorem dX9_writes_39 : decode cX9_writes 39 = .ok (.return_, 1) := by decide +kernel
theorem dX9_takesSeats_0 : decode cX9_takesSeats 0 = .ok (.iconst 0, 1) := by decide +kernel
theorem dX9_takesSeats_1 : decode cX9_takesSeats 1 = .ok (.istore_n 1, 1) := by decide +kernel
theorem dX9_takesSeats_2 : decode cX9_takesSeats 2 = .ok (.iload_n 1, 1) := by decide +kernel
theorem dX9_takesSeats_3 : decode cX9_takesSeats 3 = .ok (.bipush 16, 2) := by decide +kernel
theorem dX9_takesSeats_5 : decode cX9_takesSeats 5 = .ok (.if_icmp .ge 21, 3) := by decide +kernel
theorem dX9_takesSeats_8 : decode cX9_takesSeats 8 = .ok (.aload_n 0, 1) := by decide +kernel
theorem dX9_takesSeats_9 : decode cX9_takesSeats 9 = .ok (.getfield 13, 3) := by decide +kernel
theorem dX9_takesSeats_12 : decode cX9_takesSeats 12 = .ok (.iload_n 1, 1) := by decide +kernel
theorem dX9_takesSeats_13 : decode cX9_takesSeats 13 = .ok (.aload_n 0, 1) := by decide +kernel
theorem dX9_takesSeats_14 : decode cX9_takesSeats 14 = .ok (.iload_n 1, 1) := by decide +kernel
theorem dX9_takesSeats_15 : decode cX9_takesSeats 15 = .ok (.iconst 0, 1) := by decide +kernel
theorem dX9_takesSeats_16 : decode cX9_takesSeats 16 = .ok (.invokevirtual 64, 3) := by decide +kernel
theorem dX9_takesSeats_19 : decode cX9_takesSeats 19 = .ok (.iastore, 1) := by decide +kernel
theorem dX9_takesSeats_20 : decode cX9_takesSeats 20 = .ok (.iinc 1 1, 3) := by decide +kernel
theorem dX9_takesSeats_23 : decode cX9_takesSeats 23 = .ok (.goto (-21), 3) := by decide +kernel
theorem dX9_takesSeats_26 : decode cX9_takesSeats 26 = .ok (.return_, 1) := by decide +kernel
theorem dX9_seated_0 : decode cX9_seated 0 = .ok (.iconst 0, 1) := by decide +kernel
theorem dX9_seated_1 : decode cX9_seated 1 = .ok (.istore_n 2, 1) := by decide +kernel
theorem dX9_seated_2 : decode cX9_seated 2 = .ok (.iconst 0, 1) := by decide +kernel
theorem dX9_seated_3 : decode cX9_seated 3 = .ok (.istore_n 3, 1) := by decide +kernel
theorem dX9_seated_4 : decode cX9_seated 4 = .ok (.iload_n 3, 1) := by decide +kernel
theorem dX9_seated_5 : decode cX9_seated 5 = .ok (.bipush 16, 2) := by decide +kernel
theorem dX9_seated_7 : decode cX9_seated 7 = .ok (.if_icmp .ge 30, 3) := by decide +kernel
theorem dX9_seated_10 : decode cX9_seated 10 = .ok (.iload_n 2, 1) := by decide +kernel
theorem dX9_seated_11 : decode cX9_seated 11 = .ok (.aload_n 0, 1) := by decide +kernel
theorem dX9_seated_12 : decode cX9_seated 12 = .ok (.getfield 13, 3) := by decide +kernel
theorem dX9_seated_15 : decode cX9_seated 15 = .ok (.iload_n 3, 1) := by decide +kernel
theorem dX9_seated_16 : decode cX9_seated 16 = .ok (.iaload, 1) := by decide +kernel
theorem dX9_seated_17 : decode cX9_seated 17 = .ok (.iload_n 1, 1) := by decide +kernel
theorem dX9_seated_18 : decode cX9_seated 18 = .ok (.invokestatic 77, 3) := by decide +kernel
theorem dX9_seated_21 : decode cX9_seated 21 = .ok (.ifCond .eq 7, 3) := by decide +kernel
theorem dX9_seated_24 : decode cX9_seated 24 = .ok (.iconst 1, 1) := by decide +kernel
theorem dX9_seated_25 : decode cX9_seated 25 = .ok (.goto 4, 3) := by decide +kernel
theorem dX9_seated_28 : decode cX9_seated 28 = .ok (.iconst 0, 1) := by decide +kernel
theorem dX9_seated_29 : decode cX9_seated 29 = .ok (.iadd, 1) := by decide +kernel
theorem dX9_seated_30 : decode cX9_seated 30 = .ok (.istore_n 2, 1) := by decide +kernel
theorem dX9_seated_31 : decode cX9_seated 31 = .ok (.iinc 3 1, 3) := by decide +kernel
theorem dX9_seated_34 : decode cX9_seated 34 = .ok (.goto (-30), 3) := by decide +kernel
theorem dX9_seated_37 : decode cX9_seated 37 = .ok (.iload_n 2, 1) := by decide +kernel
theorem dX9_seated_38 : decode cX9_seated 38 = .ok (.ireturn, 1) := by decide +kernel
theorem dX9_marks_0 : decode cX9_marks 0 = .ok (.iload_n 1, 1) := by decide +kernel
theorem dX9_marks_1 : decode cX9_marks 1 = .ok (.iconst 2, 1) := by decide +kernel
theorem dX9_marks_2 : decode cX9_marks 2 = .ok (.idiv, 1) := by decide +kernel
theorem dX9_marks_3 : decode cX9_marks 3 = .ok (.istore_n 2, 1) := by decide +kernel
theorem dX9_marks_4 : decode cX9_marks 4 = .ok (.iload_n 2, 1) := by decide +kernel
theorem dX9_marks_5 : decode cX9_marks 5 = .ok (.ifCond .le 17, 3) := by decide +kernel
theorem dX9_marks_8 : decode cX9_marks 8 = .ok (.aload_n 0, 1) := by decide +kernel
theorem dX9_marks_9 : decode cX9_marks 9 = .ok (.getfield 16, 3) := by decide +kernel
theorem dX9_marks_12 : decode cX9_marks 12 = .ok (.iload_n 2, 1) := by decide +kernel
theorem dX9_marks_13 : decode cX9_marks 13 = .ok (.iconst 1, 1) := by decide +kernel
theorem dX9_marks_14 : decode cX9_marks 14 = .ok (.bastore, 1) := by decide +kernel
theorem dX9_marks_15 : decode cX9_marks 15 = .ok (.iload_n 2, 1) := by decide +kernel
theorem dX9_marks_16 : decode cX9_marks 16 = .ok (.iconst 2, 1) := by decide +kernel
theorem dX9_marks_17 : decode cX9_marks 17 = .ok (.idiv, 1) := by decide +kernel
theorem dX9_marks_18 : decode cX9_marks 18 = .ok (.istore_n 2, 1) := by decide +kernel
theorem dX9_marks_19 : decode cX9_marks 19 = .ok (.goto (-15), 3) := by decide +kernel
theorem dX9_marks_22 : decode cX9_marks 22 = .ok (.return_, 1) := by decide +kernel
theorem dX9_leafFor_0 : decode cX9_leafFor 0 = .ok (.bipush 16, 2) := by decide +kernel
theorem dX9_leafFor_2 : decode cX9_leafFor 2 = .ok (.istore_n 1, 1) := by decide +kernel
theorem dX9_leafFor_3 : decode cX9_leafFor 3 = .ok (.iload_n 1, 1) := by decide +kernel
theorem dX9_leafFor_4 : decode cX9_leafFor 4 = .ok (.bipush 32, 2) := by decide +kernel
theorem dX9_leafFor_6 : decode cX9_leafFor 6 = .ok (.if_icmp .ge 28, 3) := by decide +kernel
theorem dX9_leafFor_9 : decode cX9_leafFor 9 = .ok (.aload_n 0, 1) := by decide +kernel
theorem dX9_leafFor_10 : decode cX9_leafFor 10 = .ok (.getfield 20, 3) := by decide +kernel
theorem dX9_leafFor_13 : decode cX9_leafFor 13 = .ok (.iload_n 1, 1) := by decide +kernel
theorem dX9_leafFor_14 : decode cX9_leafFor 14 = .ok (.baload, 1) := by decide +kernel
theorem dX9_leafFor_15 : decode cX9_leafFor 15 = .ok (.ifCond .eq 13, 3) := by decide +kernel
theorem dX9_leafFor_18 : decode cX9_leafFor 18 = .ok (.aload_n 0, 1) := by decide +kernel
theorem dX9_leafFor_19 : decode cX9_leafFor 19 = .ok (.iload_n 1, 1) := by decide +kernel
theorem dX9_leafFor_20 : decode cX9_leafFor 20 = .ok (.invokevirtual 87, 3) := by decide +kernel
theorem dX9_leafFor_23 : decode cX9_leafFor 23 = .ok (.ifCond .ne 5, 3) := by decide +kernel
theorem dX9_leafFor_26 : decode cX9_leafFor 26 = .ok (.iload_n 1, 1) := by decide +kernel
theorem dX9_leafFor_27 : decode cX9_leafFor 27 = .ok (.ireturn, 1) := by decide +kernel
theorem dX9_leafFor_28 : decode cX9_leafFor 28 = .ok (.iinc 1 1, 3) := by decide +kernel
theorem dX9_leafFor_31 : decode cX9_leafFor 31 = .ok (.goto (-28), 3) := by decide +kernel
theorem dX9_leafFor_34 : decode cX9_leafFor 34 = .ok (.iconst 1, 1) := by decide +kernel
theorem dX9_leafFor_35 : decode cX9_leafFor 35 = .ok (.istore_n 1, 1) := by decide +kernel
theorem dX9_leafFor_36 : decode cX9_leafFor 36 = .ok (.iload_n 1, 1) := by decide +kernel
theorem dX9_leafFor_37 : decode cX9_leafFor 37 = .ok (.bipush 16, 2) := by decide +kernel
theorem dX9_leafFor_39 : decode cX9_leafFor 39 = .ok (.if_icmp .ge 37, 3) := by decide +kernel
theorem dX9_leafFor_42 : decode cX9_leafFor 42 = .ok (.aload_n 0, 1) := by decide +kernel
theorem dX9_leafFor_43 : decode cX9_leafFor 43 = .ok (.iconst 2, 1) := by decide +kernel
theorem dX9_leafFor_44 : decode cX9_leafFor 44 = .ok (.iload_n 1, 1) := by decide +kernel
theorem dX9_leafFor_45 : decode cX9_leafFor 45 = .ok (.imul, 1) := by decide +kernel
theorem dX9_leafFor_46 : decode cX9_leafFor 46 = .ok (.iconst 1, 1) := by decide +kernel
theorem dX9_leafFor_47 : decode cX9_leafFor 47 = .ok (.iadd, 1) := by decide +kernel
theorem dX9_leafFor_48 : decode cX9_leafFor 48 = .ok (.invokevirtual 87, 3) := by decide +kernel
theorem dX9_leafFor_51 : decode cX9_leafFor 51 = .ok (.aload_n 0, 1) := by decide +kernel
theorem dX9_leafFor_52 : decode cX9_leafFor 52 = .ok (.iconst 2, 1) := by decide +kernel
theorem dX9_leafFor_53 : decode cX9_leafFor 53 = .ok (.iload_n 1, 1) := by decide +kernel
theorem dX9_leafFor_54 : decode cX9_leafFor 54 = .ok (.imul, 1) := by decide +kernel
theorem dX9_leafFor_55 : decode cX9_leafFor 55 = .ok (.invokevirtual 87, 3) := by decide +kernel
theorem dX9_leafFor_58 : decode cX9_leafFor 58 = .ok (.if_icmp .ge 11, 3) := by decide +kernel
theorem dX9_leafFor_61 : decode cX9_leafFor 61 = .ok (.iconst 2, 1) := by decide +kernel
theorem dX9_leafFor_62 : decode cX9_leafFor 62 = .ok (.iload_n 1, 1) := by decide +kernel
theorem dX9_leafFor_63 : decode cX9_leafFor 63 = .ok (.imul, 1) := by decide +kernel
theorem dX9_leafFor_64 : decode cX9_leafFor 64 = .ok (.iconst 1, 1) := by decide +kernel
theorem dX9_leafFor_65 : decode cX9_leafFor 65 = .ok (.iadd, 1) := by decide +kernel
theorem dX9_leafFor_66 : decode cX9_leafFor 66 = .ok (.goto 6, 3) := by decide +kernel
theorem dX9_leafFor_69 : decode cX9_leafFor 69 = .ok (.iconst 2, 1) := by decide +kernel
theorem dX9_leafFor_70 : decode cX9_leafFor 70 = .ok (.iload_n 1, 1) := by decide +kernel
theorem dX9_leafFor_71 : decode cX9_leafFor 71 = .ok (.imul, 1) := by decide +kernel
theorem dX9_leafFor_72 : decode cX9_leafFor 72 = .ok (.istore_n 1, 1) := by decide +kernel
theorem dX9_leafFor_73 : decode cX9_leafFor 73 = .ok (.goto (-37), 3) := by decide +kernel
theorem dX9_leafFor_76 : decode cX9_leafFor 76 = .ok (.iload_n 1, 1) := by decide +kernel
theorem dX9_leafFor_77 : decode cX9_leafFor 77 = .ok (.ireturn, 1) := by decide +kernel
theorem dX9_shifts_0 : decode cX9_shifts 0 = .ok (.iconst 0, 1) := by decide +kernel
theorem dX9_shifts_1 : decode cX9_shifts 1 = .ok (.istore_n 3, 1) := by decide +kernel
theorem dX9_shifts_2 : decode cX9_shifts 2 = .ok (.iload_n 3, 1) := by decide +kernel
theorem dX9_shifts_3 : decode cX9_shifts 3 = .ok (.bipush 32, 2) := by decide +kernel
theorem dX9_shifts_5 : decode cX9_shifts 5 = .ok (.if_icmp .ge 23, 3) := by decide +kernel
theorem dX9_shifts_8 : decode cX9_shifts 8 = .ok (.aload_n 0, 1) := by decide +kernel
theorem dX9_shifts_9 : decode cX9_shifts 9 = .ok (.getfield 16, 3) := by decide +kernel
theorem dX9_shifts_12 : decode cX9_shifts 12 = .ok (.iload_n 3, 1) := by decide +kernel
theorem dX9_shifts_13 : decode cX9_shifts 13 = .ok (.iconst 0, 1) := by decide +kernel
theorem dX9_shifts_14 : decode cX9_shifts 14 = .ok (.bastore, 1) := by decide +kernel
theorem dX9_shifts_15 : decode cX9_shifts 15 = .ok (.aload_n 0, 1) := by decide +kernel
theorem dX9_shifts_16 : decode cX9_shifts 16 = .ok (.getfield 20, 3) := by decide +kernel
theorem dX9_shifts_19 : decode cX9_shifts 19 = .ok (.iload_n 3, 1) := by decide +kernel
theorem dX9_shifts_20 : decode cX9_shifts 20 = .ok (.iconst 0, 1) := by decide +kernel
theorem dX9_shifts_21 : decode cX9_shifts 21 = .ok (.bastore, 1) := by decide +kernel
theorem dX9_shifts_22 : decode cX9_shifts 22 = .ok (.iinc 3 1, 3) := by decide +kernel
theorem dX9_shifts_25 : decode cX9_shifts 25 = .ok (.goto (-23), 3) := by decide +kernel
theorem dX9_shifts_28 : decode cX9_shifts 28 = .ok (.iconst 0, 1) := by decide +kernel
theorem dX9_shifts_29 : decode cX9_shifts 29 = .ok (.istore_n 3, 1) := by decide +kernel
theorem dX9_shifts_30 : decode cX9_shifts 30 = .ok (.iload_n 3, 1) := by decide +kernel
theorem dX9_shifts_31 : decode cX9_shifts 31 = .ok (.bipush 16, 2) := by decide +kernel
theorem dX9_shifts_33 : decode cX9_shifts 33 = .ok (.if_icmp .ge 46, 3) := by decide +kernel
theorem dX9_shifts_36 : decode cX9_shifts 36 = .ok (.iload_n 1, 1) := by decide +kernel
theorem dX9_shifts_37 : decode cX9_shifts 37 = .ok (.iload_n 3, 1) := by decide +kernel
theorem dX9_shifts_38 : decode cX9_shifts 38 = .ok (.invokestatic 72, 3) := by decide +kernel
theorem dX9_shifts_41 : decode cX9_shifts 41 = .ok (.ifCond .eq 32, 3) := by decide +kernel
theorem dX9_shifts_44 : decode cX9_shifts 44 = .ok (.aload_n 0, 1) := by decide +kernel
theorem dX9_shifts_45 : decode cX9_shifts 45 = .ok (.getfield 20, 3) := by decide +kernel
theorem dX9_shifts_48 : decode cX9_shifts 48 = .ok (.aload_n 0, 1) := by decide +kernel
theorem dX9_shifts_49 : decode cX9_shifts 49 = .ok (.getfield 13, 3) := by decide +kernel
theorem dX9_shifts_52 : decode cX9_shifts 52 = .ok (.iload_n 3, 1) := by decide +kernel
theorem dX9_shifts_53 : decode cX9_shifts 53 = .ok (.iaload, 1) := by decide +kernel
theorem dX9_shifts_54 : decode cX9_shifts 54 = .ok (.iconst 1, 1) := by decide +kernel
theorem dX9_shifts_55 : decode cX9_shifts 55 = .ok (.bastore, 1) := by decide +kernel
theorem dX9_shifts_56 : decode cX9_shifts 56 = .ok (.aload_n 0, 1) := by decide +kernel
theorem dX9_shifts_57 : decode cX9_shifts 57 = .ok (.aload_n 0, 1) := by decide +kernel
theorem dX9_shifts_58 : decode cX9_shifts 58 = .ok (.getfield 13, 3) := by decide +kernel
theorem dX9_shifts_61 : decode cX9_shifts 61 = .ok (.iload_n 3, 1) := by decide +kernel
theorem dX9_shifts_62 : decode cX9_shifts 62 = .ok (.iaload, 1) := by decide +kernel
theorem dX9_shifts_63 : decode cX9_shifts 63 = .ok (.invokevirtual 90, 3) := by decide +kernel
theorem dX9_shifts_66 : decode cX9_shifts 66 = .ok (.aload_n 0, 1) := by decide +kernel
theorem dX9_shifts_67 : decode cX9_shifts 67 = .ok (.getfield 13, 3) := by decide +kernel
theorem dX9_shifts_70 : decode cX9_shifts 70 = .ok (.iload_n 3, 1) := by decide +kernel
theorem dX9_shifts_71 : decode cX9_shifts 71 = .ok (.iconst 0, 1) := by decide +kernel
theorem dX9_shifts_72 : decode cX9_shifts 72 = .ok (.iastore, 1) := by decide +kernel
theorem dX9_shifts_73 : decode cX9_shifts 73 = .ok (.iinc 3 1, 3) := by decide +kernel
theorem dX9_shifts_76 : decode cX9_shifts 76 = .ok (.goto (-46), 3) := by decide +kernel
theorem dX9_shifts_79 : decode cX9_shifts 79 = .ok (.iconst 0, 1) := by decide +kernel
theorem dX9_shifts_80 : decode cX9_shifts 80 = .ok (.istore_n 3, 1) := by decide +kernel
theorem dX9_shifts_81 : decode cX9_shifts 81 = .ok (.iload_n 3, 1) := by decide +kernel
theorem dX9_shifts_82 : decode cX9_shifts 82 = .ok (.bipush 16, 2) := by decide +kernel
theorem dX9_shifts_84 : decode cX9_shifts 84 = .ok (.if_icmp .ge 49, 3) := by decide +kernel
theorem dX9_shifts_87 : decode cX9_shifts 87 = .ok (.iload_n 2, 1) := by decide +kernel
theorem dX9_shifts_88 : decode cX9_shifts 88 = .ok (.iload_n 3, 1) := by decide +kernel
theorem dX9_shifts_89 : decode cX9_shifts 89 = .ok (.invokestatic 72, 3) := by decide +kernel
theorem dX9_shifts_92 : decode cX9_shifts 92 = .ok (.ifCond .eq 35, 3) := by decide +kernel
theorem dX9_shifts_95 : decode cX9_shifts 95 = .ok (.aload_n 0, 1) := by decide +kernel
theorem dX9_shifts_96 : decode cX9_shifts 96 = .ok (.getfield 13, 3) := by decide +kernel
theorem dX9_shifts_99 : decode cX9_shifts 99 = .ok (.iload_n 3, 1) := by decide +kernel
theorem dX9_shifts_100 : decode cX9_shifts 100 = .ok (.aload_n 0, 1) := by decide +kernel
theorem dX9_shifts_101 : decode cX9_shifts 101 = .ok (.invokevirtual 94, 3) := by decide +kernel
theorem dX9_shifts_104 : decode cX9_shifts 104 = .ok (.iastore, 1) := by decide +kernel
theorem dX9_shifts_105 : decode cX9_shifts 105 = .ok (.aload_n 0, 1) := by decide +kernel
theorem dX9_shifts_106 : decode cX9_shifts 106 = .ok (.getfield 16, 3) := by decide +kernel
theorem dX9_shifts_109 : decode cX9_shifts 109 = .ok (.aload_n 0, 1) := by decide +kernel
theorem dX9_shifts_110 : decode cX9_shifts 110 = .ok (.getfield 13, 3) := by decide +kernel
theorem dX9_shifts_113 : decode cX9_shifts 113 = .ok (.iload_n 3, 1) := by decide +kernel
theorem dX9_shifts_114 : decode cX9_shifts 114 = .ok (.iaload, 1) := by decide +kernel
theorem dX9_shifts_115 : decode cX9_shifts 115 = .ok (.iconst 1, 1) := by decide +kernel
theorem dX9_shifts_116 : decode cX9_shifts 116 = .ok (.bastore, 1) := by decide +kernel
theorem dX9_shifts_117 : decode cX9_shifts 117 = .ok (.aload_n 0, 1) := by decide +kernel
theorem dX9_shifts_118 : decode cX9_shifts 118 = .ok (.aload_n 0, 1) := by decide +kernel
theorem dX9_shifts_119 : decode cX9_shifts 119 = .ok (.getfield 13, 3) := by decide +kernel
theorem dX9_shifts_122 : decode cX9_shifts 122 = .ok (.iload_n 3, 1) := by decide +kernel
theorem dX9_shifts_123 : decode cX9_shifts 123 = .ok (.iaload, 1) := by decide +kernel
theorem dX9_shifts_124 : decode cX9_shifts 124 = .ok (.invokevirtual 90, 3) := by decide +kernel
theorem dX9_shifts_127 : decode cX9_shifts 127 = .ok (.iinc 3 1, 3) := by decide +kernel
theorem dX9_shifts_130 : decode cX9_shifts 130 = .ok (.goto (-49), 3) := by decide +kernel
theorem dX9_shifts_133 : decode cX9_shifts 133 = .ok (.return_, 1) := by decide +kernel
theorem dX9_letters_0 : decode cX9_letters 0 = .ok (.iconst 0, 1) := by decide +kernel
theorem dX9_letters_1 : decode cX9_letters 1 = .ok (.istore_n 1, 1) := by decide +kernel
theorem dX9_letters_2 : decode cX9_letters 2 = .ok (.iconst 1, 1) := by decide +kernel
theorem dX9_letters_3 : decode cX9_letters 3 = .ok (.istore_n 2, 1) := by decide +kernel
theorem dX9_letters_4 : decode cX9_letters 4 = .ok (.iload_n 2, 1) := by decide +kernel
theorem dX9_letters_5 : decode cX9_letters 5 = .ok (.bipush 16, 2) := by decide +kernel
theorem dX9_letters_7 : decode cX9_letters 7 = .ok (.if_icmp .ge 54, 3) := by decide +kernel
theorem dX9_letters_10 : decode cX9_letters 10 = .ok (.aload_n 0, 1) := by decide +kernel
theorem dX9_letters_11 : decode cX9_letters 11 = .ok (.getfield 16, 3) := by decide +kernel
theorem dX9_letters_14 : decode cX9_letters 14 = .ok (.iload_n 2, 1) := by decide +kernel
theorem dX9_letters_15 : decode cX9_letters 15 = .ok (.baload, 1) := by decide +kernel
theorem dX9_letters_16 : decode cX9_letters 16 = .ok (.ifCond .eq 39, 3) := by decide +kernel
theorem dX9_letters_19 : decode cX9_letters 19 = .ok (.iload_n 1, 1) := by decide +kernel
theorem dX9_letters_20 : decode cX9_letters 20 = .ok (.aload_n 0, 1) := by decide +kernel
theorem dX9_letters_21 : decode cX9_letters 21 = .ok (.iconst 2, 1) := by decide +kernel
theorem dX9_letters_22 : decode cX9_letters 22 = .ok (.iload_n 2, 1) := by decide +kernel
theorem dX9_letters_23 : decode cX9_letters 23 = .ok (.imul, 1) := by decide +kernel
theorem dX9_letters_24 : decode cX9_letters 24 = .ok (.invokevirtual 87, 3) := by decide +kernel
theorem dX9_letters_27 : decode cX9_letters 27 = .ok (.ifCond .le 7, 3) := by decide +kernel
theorem dX9_letters_30 : decode cX9_letters 30 = .ok (.iconst 1, 1) := by decide +kernel
theorem dX9_letters_31 : decode cX9_letters 31 = .ok (.goto 4, 3) := by decide +kernel
theorem dX9_letters_34 : decode cX9_letters 34 = .ok (.iconst 0, 1) := by decide +kernel
theorem dX9_letters_35 : decode cX9_letters 35 = .ok (.aload_n 0, 1) := by decide +kernel
theorem dX9_letters_36 : decode cX9_letters 36 = .ok (.iconst 2, 1) := by decide +kernel
theorem dX9_letters_37 : decode cX9_letters 37 = .ok (.iload_n 2, 1) := by decide +kernel
theorem dX9_letters_38 : decode cX9_letters 38 = .ok (.imul, 1) := by decide +kernel
theorem dX9_letters_39 : decode cX9_letters 39 = .ok (.iconst 1, 1) := by decide +kernel
theorem dX9_letters_40 : decode cX9_letters 40 = .ok (.iadd, 1) := by decide +kernel
theorem dX9_letters_41 : decode cX9_letters 41 = .ok (.invokevirtual 87, 3) := by decide +kernel
theorem dX9_letters_44 : decode cX9_letters 44 = .ok (.ifCond .le 7, 3) := by decide +kernel
theorem dX9_letters_47 : decode cX9_letters 47 = .ok (.iconst 1, 1) := by decide +kernel
theorem dX9_letters_48 : decode cX9_letters 48 = .ok (.goto 4, 3) := by decide +kernel
theorem dX9_letters_51 : decode cX9_letters 51 = .ok (.iconst 0, 1) := by decide +kernel
theorem dX9_letters_52 : decode cX9_letters 52 = .ok (.iadd, 1) := by decide +kernel
theorem dX9_letters_53 : decode cX9_letters 53 = .ok (.iadd, 1) := by decide +kernel
theorem dX9_letters_54 : decode cX9_letters 54 = .ok (.istore_n 1, 1) := by decide +kernel
theorem dX9_letters_55 : decode cX9_letters 55 = .ok (.iinc 2 1, 3) := by decide +kernel
theorem dX9_letters_58 : decode cX9_letters 58 = .ok (.goto (-54), 3) := by decide +kernel
theorem dX9_letters_61 : decode cX9_letters 61 = .ok (.iload_n 1, 1) := by decide +kernel
theorem dX9_letters_62 : decode cX9_letters 62 = .ok (.ireturn, 1) := by decide +kernel
theorem dX9_come_0 : decode cX9_come 0 = .ok (.iload_n 1, 1) := by decide +kernel
theorem dX9_come_1 : decode cX9_come 1 = .ok (.invokestatic 98, 3) := by decide +kernel
theorem dX9_come_4 : decode cX9_come 4 = .ok (.ifCond .ne 5, 3) := by decide +kernel
theorem dX9_come_7 : decode cX9_come 7 = .ok (.iconst (-1), 1) := by decide +kernel
theorem dX9_come_8 : decode cX9_come 8 = .ok (.ireturn, 1) := by decide +kernel
theorem dX9_come_9 : decode cX9_come 9 = .ok (.aload_n 0, 1) := by decide +kernel
theorem dX9_come_10 : decode cX9_come 10 = .ok (.iload_n 1, 1) := by decide +kernel
theorem dX9_come_11 : decode cX9_come 11 = .ok (.invokevirtual 68, 3) := by decide +kernel
theorem dX9_come_14 : decode cX9_come 14 = .ok (.ifCond .ne 13, 3) := by decide +kernel
theorem dX9_come_17 : decode cX9_come 17 = .ok (.aload_n 0, 1) := by decide +kernel
theorem dX9_come_18 : decode cX9_come 18 = .ok (.iload_n 1, 1) := by decide +kernel
theorem dX9_come_19 : decode cX9_come 19 = .ok (.iconst 3, 1) := by decide +kernel
theorem dX9_come_20 : decode cX9_come 20 = .ok (.invokevirtual 64, 3) := by decide +kernel
theorem dX9_come_23 : decode cX9_come 23 = .ok (.iconst 1, 1) := by decide +kernel
theorem dX9_come_24 : decode cX9_come 24 = .ok (.if_icmp .ne 6, 3) := by decide +kernel
theorem dX9_come_27 : decode cX9_come 27 = .ok (.bipush (-2), 2) := by decide +kernel
theorem dX9_come_29 : decode cX9_come 29 = .ok (.ireturn, 1) := by decide +kernel
theorem dX9_come_30 : decode cX9_come 30 = .ok (.aload_n 0, 1) := by decide +kernel
theorem dX9_come_31 : decode cX9_come 31 = .ok (.invokevirtual 101, 3) := by decide +kernel
theorem dX9_come_34 : decode cX9_come 34 = .ok (.aload_n 0, 1) := by decide +kernel
theorem dX9_come_35 : decode cX9_come 35 = .ok (.iload_n 1, 1) := by decide +kernel
theorem dX9_come_36 : decode cX9_come 36 = .ok (.iconst 3, 1) := by decide +kernel
theorem dX9_come_37 : decode cX9_come 37 = .ok (.iconst 1, 1) := by decide +kernel
theorem dX9_come_38 : decode cX9_come 38 = .ok (.invokevirtual 104, 3) := by decide +kernel
theorem dX9_come_41 : decode cX9_come 41 = .ok (.aload_n 0, 1) := by decide +kernel
theorem dX9_come_42 : decode cX9_come 42 = .ok (.iconst 3, 1) := by decide +kernel
theorem dX9_come_43 : decode cX9_come 43 = .ok (.iconst 1, 1) := by decide +kernel
theorem dX9_come_44 : decode cX9_come 44 = .ok (.invokevirtual 108, 3) := by decide +kernel
theorem dX9_come_47 : decode cX9_come 47 = .ok (.invokestatic 111, 3) := by decide +kernel
theorem dX9_come_50 : decode cX9_come 50 = .ok (.ireturn, 1) := by decide +kernel
theorem dX9_leave_0 : decode cX9_leave 0 = .ok (.iload_n 1, 1) := by decide +kernel
theorem dX9_leave_1 : decode cX9_leave 1 = .ok (.invokestatic 98, 3) := by decide +kernel
theorem dX9_leave_4 : decode cX9_leave 4 = .ok (.ifCond .ne 5, 3) := by decide +kernel
theorem dX9_leave_7 : decode cX9_leave 7 = .ok (.iconst (-1), 1) := by decide +kernel
theorem dX9_leave_8 : decode cX9_leave 8 = .ok (.ireturn, 1) := by decide +kernel
theorem dX9_leave_9 : decode cX9_leave 9 = .ok (.aload_n 0, 1) := by decide +kernel
theorem dX9_leave_10 : decode cX9_leave 10 = .ok (.iload_n 1, 1) := by decide +kernel
theorem dX9_leave_11 : decode cX9_leave 11 = .ok (.invokevirtual 68, 3) := by decide +kernel
theorem dX9_leave_14 : decode cX9_leave 14 = .ok (.ifCond .eq 13, 3) := by decide +kernel
theorem dX9_leave_17 : decode cX9_leave 17 = .ok (.aload_n 0, 1) := by decide +kernel
theorem dX9_leave_18 : decode cX9_leave 18 = .ok (.iload_n 1, 1) := by decide +kernel
theorem dX9_leave_19 : decode cX9_leave 19 = .ok (.iconst 3, 1) := by decide +kernel
theorem dX9_leave_20 : decode cX9_leave 20 = .ok (.invokevirtual 64, 3) := by decide +kernel
theorem dX9_leave_23 : decode cX9_leave 23 = .ok (.iconst 2, 1) := by decide +kernel
theorem dX9_leave_24 : decode cX9_leave 24 = .ok (.if_icmp .ne 6, 3) := by decide +kernel
theorem dX9_leave_27 : decode cX9_leave 27 = .ok (.bipush (-2), 2) := by decide +kernel
theorem dX9_leave_29 : decode cX9_leave 29 = .ok (.ireturn, 1) := by decide +kernel
theorem dX9_leave_30 : decode cX9_leave 30 = .ok (.aload_n 0, 1) := by decide +kernel
theorem dX9_leave_31 : decode cX9_leave 31 = .ok (.invokevirtual 101, 3) := by decide +kernel
theorem dX9_leave_34 : decode cX9_leave 34 = .ok (.aload_n 0, 1) := by decide +kernel
theorem dX9_leave_35 : decode cX9_leave 35 = .ok (.iload_n 1, 1) := by decide +kernel
theorem dX9_leave_36 : decode cX9_leave 36 = .ok (.iconst 3, 1) := by decide +kernel
theorem dX9_leave_37 : decode cX9_leave 37 = .ok (.iconst 2, 1) := by decide +kernel
theorem dX9_leave_38 : decode cX9_leave 38 = .ok (.invokevirtual 104, 3) := by decide +kernel
theorem dX9_leave_41 : decode cX9_leave 41 = .ok (.aload_n 0, 1) := by decide +kernel
theorem dX9_leave_42 : decode cX9_leave 42 = .ok (.iconst 3, 1) := by decide +kernel
theorem dX9_leave_43 : decode cX9_leave 43 = .ok (.iconst 2, 1) := by decide +kernel
theorem dX9_leave_44 : decode cX9_leave 44 = .ok (.invokevirtual 108, 3) := by decide +kernel
theorem dX9_leave_47 : decode cX9_leave 47 = .ok (.invokestatic 111, 3) := by decide +kernel
theorem dX9_leave_50 : decode cX9_leave 50 = .ok (.ireturn, 1) := by decide +kernel
theorem dX9_reads_0 : decode cX9_reads 0 = .ok (.iconst 0, 1) := by decide +kernel
theorem dX9_reads_1 : decode cX9_reads 1 = .ok (.istore_n 2, 1) := by decide +kernel
theorem dX9_reads_2 : decode cX9_reads 2 = .ok (.aload_n 0, 1) := by decide +kernel
theorem dX9_reads_3 : decode cX9_reads 3 = .ok (.iload_n 1, 1) := by decide +kernel
theorem dX9_reads_4 : decode cX9_reads 4 = .ok (.iconst 2, 1) := by decide +kernel
theorem dX9_reads_5 : decode cX9_reads 5 = .ok (.invokevirtual 64, 3) := by decide +kernel
theorem dX9_reads_8 : decode cX9_reads 8 = .ok (.istore_n 3, 1) := by decide +kernel
theorem dX9_reads_9 : decode cX9_reads 9 = .ok (.iload_n 3, 1) := by decide +kernel
theorem dX9_reads_10 : decode cX9_reads 10 = .ok (.aload_n 0, 1) := by decide +kernel
theorem dX9_reads_11 : decode cX9_reads 11 = .ok (.getfield 7, 3) := by decide +kernel
theorem dX9_reads_14 : decode cX9_reads 14 = .ok (.iconst 1, 1) := by decide +kernel
theorem dX9_reads_15 : decode cX9_reads 15 = .ok (.iaload, 1) := by decide +kernel
theorem dX9_reads_16 : decode cX9_reads 16 = .ok (.if_icmp .ge 58, 3) := by decide +kernel
theorem dX9_reads_19 : decode cX9_reads 19 = .ok (.aload_n 0, 1) := by decide +kernel
theorem dX9_reads_20 : decode cX9_reads 20 = .ok (.iload_n 1, 1) := by decide +kernel
theorem dX9_reads_21 : decode cX9_reads 21 = .ok (.aload_n 0, 1) := by decide +kernel
theorem dX9_reads_22 : decode cX9_reads 22 = .ok (.iload_n 3, 1) := by decide +kernel
theorem dX9_reads_23 : decode cX9_reads 23 = .ok (.invokevirtual 114, 3) := by decide +kernel
theorem dX9_reads_26 : decode cX9_reads 26 = .ok (.invokevirtual 117, 3) := by decide +kernel
theorem dX9_reads_29 : decode cX9_reads 29 = .ok (.ifCond .eq 39, 3) := by decide +kernel
theorem dX9_reads_32 : decode cX9_reads 32 = .ok (.aload_n 0, 1) := by decide +kernel
theorem dX9_reads_33 : decode cX9_reads 33 = .ok (.iload_n 1, 1) := by decide +kernel
theorem dX9_reads_34 : decode cX9_reads 34 = .ok (.aload_n 0, 1) := by decide +kernel
theorem dX9_reads_35 : decode cX9_reads 35 = .ok (.iload_n 3, 1) := by decide +kernel
theorem dX9_reads_36 : decode cX9_reads 36 = .ok (.invokevirtual 120, 3) := by decide +kernel
theorem dX9_reads_39 : decode cX9_reads 39 = .ok (.invokevirtual 117, 3) := by decide +kernel
theorem dX9_reads_42 : decode cX9_reads 42 = .ok (.ifCond .ne 26, 3) := by decide +kernel
theorem dX9_reads_45 : decode cX9_reads 45 = .ok (.aload_n 0, 1) := by decide +kernel
theorem dX9_reads_46 : decode cX9_reads 46 = .ok (.getfield 7, 3) := by decide +kernel
theorem dX9_reads_49 : decode cX9_reads 49 = .ok (.sipush 330, 3) := by decide +kernel
theorem dX9_reads_52 : decode cX9_reads 52 = .ok (.aload_n 0, 1) := by decide +kernel
theorem dX9_reads_53 : decode cX9_reads 53 = .ok (.iload_n 3, 1) := by decide +kernel
theorem dX9_reads_54 : decode cX9_reads 54 = .ok (.invokevirtual 120, 3) := by decide +kernel
theorem dX9_reads_57 : decode cX9_reads 57 = .ok (.iadd, 1) := by decide +kernel
theorem dX9_reads_58 : decode cX9_reads 58 = .ok (.dup2, 1) := by decide +kernel
theorem dX9_reads_59 : decode cX9_reads 59 = .ok (.iaload, 1) := by decide +kernel
theorem dX9_reads_60 : decode cX9_reads 60 = .ok (.iconst 1, 1) := by decide +kernel
theorem dX9_reads_61 : decode cX9_reads 61 = .ok (.iload_n 1, 1) := by decide +kernel
theorem dX9_reads_62 : decode cX9_reads 62 = .ok (.ishl, 1) := by decide +kernel
theorem dX9_reads_63 : decode cX9_reads 63 = .ok (.ior, 1) := by decide +kernel
theorem dX9_reads_64 : decode cX9_reads 64 = .ok (.iastore, 1) := by decide +kernel
theorem dX9_reads_65 : decode cX9_reads 65 = .ok (.iinc 2 1, 3) := by decide +kernel
theorem dX9_reads_68 : decode cX9_reads 68 = .ok (.iinc 3 1, 3) := by decide +kernel
theorem dX9_reads_71 : decode cX9_reads 71 = .ok (.goto (-62), 3) := by decide +kernel
theorem dX9_reads_74 : decode cX9_reads 74 = .ok (.aload_n 0, 1) := by decide +kernel
theorem dX9_reads_75 : decode cX9_reads 75 = .ok (.iload_n 1, 1) := by decide +kernel
theorem dX9_reads_76 : decode cX9_reads 76 = .ok (.iconst 2, 1) := by decide +kernel
theorem dX9_reads_77 : decode cX9_reads 77 = .ok (.aload_n 0, 1) := by decide +kernel
theorem dX9_reads_78 : decode cX9_reads 78 = .ok (.getfield 7, 3) := by decide +kernel
theorem dX9_reads_81 : decode cX9_reads 81 = .ok (.iconst 1, 1) := by decide +kernel
theorem dX9_reads_82 : decode cX9_reads 82 = .ok (.iaload, 1) := by decide +kernel
theorem dX9_reads_83 : decode cX9_reads 83 = .ok (.invokevirtual 104, 3) := by decide +kernel
theorem dX9_reads_86 : decode cX9_reads 86 = .ok (.iload_n 2, 1) := by decide +kernel
theorem dX9_reads_87 : decode cX9_reads 87 = .ok (.ireturn, 1) := by decide +kernel
theorem dX9_readAll_0 : decode cX9_readAll 0 = .ok (.iconst 0, 1) := by decide +kernel
theorem dX9_readAll_1 : decode cX9_readAll 1 = .ok (.istore_n 1, 1) := by decide +kernel
theorem dX9_readAll_2 : decode cX9_readAll 2 = .ok (.iload_n 1, 1) := by decide +kernel
theorem dX9_readAll_3 : decode cX9_readAll 3 = .ok (.bipush 16, 2) := by decide +kernel
theorem dX9_readAll_5 : decode cX9_readAll 5 = .ok (.if_icmp .ge 32, 3) := by decide +kernel
theorem dX9_readAll_8 : decode cX9_readAll 8 = .ok (.aload_n 0, 1) := by decide +kernel
theorem dX9_readAll_9 : decode cX9_readAll 9 = .ok (.iload_n 1, 1) := by decide +kernel
theorem dX9_readAll_10 : decode cX9_readAll 10 = .ok (.invokevirtual 68, 3) := by decide +kernel
theorem dX9_readAll_13 : decode cX9_readAll 13 = .ok (.ifCond .eq 18, 3) := by decide +kernel
theorem dX9_readAll_16 : decode cX9_readAll 16 = .ok (.aload_n 0, 1) := by decide +kernel
theorem dX9_readAll_17 : decode cX9_readAll 17 = .ok (.iload_n 1, 1) := by decide +kernel
theorem dX9_readAll_18 : decode cX9_readAll 18 = .ok (.iconst 1, 1) := by decide +kernel
theorem dX9_readAll_19 : decode cX9_readAll 19 = .ok (.invokevirtual 64, 3) := by decide +kernel
theorem dX9_readAll_22 : decode cX9_readAll 22 = .ok (.ifCond .ne 9, 3) := by decide +kernel
theorem dX9_readAll_25 : decode cX9_readAll 25 = .ok (.aload_n 0, 1) := by decide +kernel
theorem dX9_readAll_26 : decode cX9_readAll 26 = .ok (.iload_n 1, 1) := by decide +kernel
theorem dX9_readAll_27 : decode cX9_readAll 27 = .ok (.invokevirtual 123, 3) := by decide +kernel
theorem dX9_readAll_30 : decode cX9_readAll 30 = .ok (.pop, 1) := by decide +kernel
theorem dX9_readAll_31 : decode cX9_readAll 31 = .ok (.iinc 1 1, 3) := by decide +kernel
theorem dX9_readAll_34 : decode cX9_readAll 34 = .ok (.goto (-32), 3) := by decide +kernel
theorem dX9_readAll_37 : decode cX9_readAll 37 = .ok (.return_, 1) := by decide +kernel
theorem dX9_refusal_0 : decode cX9_refusal 0 = .ok (.aload_n 0, 1) := by decide +kernel
theorem dX9_refusal_1 : decode cX9_refusal 1 = .ok (.iconst 3, 1) := by decide +kernel
theorem dX9_refusal_2 : decode cX9_refusal 2 = .ok (.iconst 1, 1) := by decide +kernel
theorem dX9_refusal_3 : decode cX9_refusal 3 = .ok (.invokevirtual 108, 3) := by decide +kernel
theorem dX9_refusal_6 : decode cX9_refusal 6 = .ok (.ifCond .ne 17, 3) := by decide +kernel
theorem dX9_refusal_9 : decode cX9_refusal 9 = .ok (.aload_n 0, 1) := by decide +kernel
theorem dX9_refusal_10 : decode cX9_refusal 10 = .ok (.iconst 3, 1) := by decide +kernel
theorem dX9_refusal_11 : decode cX9_refusal 11 = .ok (.iconst 2, 1) := by decide +kernel
theorem dX9_refusal_12 : decode cX9_refusal 12 = .ok (.invokevirtual 108, 3) := by decide +kernel
theorem dX9_refusal_15 : decode cX9_refusal 15 = .ok (.ifCond .ne 8, 3) := by decide +kernel
theorem dX9_refusal_18 : decode cX9_refusal 18 = .ok (.bipush (-2), 2) := by decide +kernel
theorem dX9_refusal_20 : decode cX9_refusal 20 = .ok (.goto 16, 3) := by decide +kernel
theorem dX9_refusal_23 : decode cX9_refusal 23 = .ok (.aload_n 0, 1) := by decide +kernel
theorem dX9_refusal_24 : decode cX9_refusal 24 = .ok (.invokevirtual 126, 3) := by decide +kernel
theorem dX9_refusal_27 : decode cX9_refusal 27 = .ok (.ifCond .eq 8, 3) := by decide +kernel
theorem dX9_refusal_30 : decode cX9_refusal 30 = .ok (.bipush (-3), 2) := by decide +kernel
theorem dX9_refusal_32 : decode cX9_refusal 32 = .ok (.goto 4, 3) := by decide +kernel
theorem dX9_refusal_35 : decode cX9_refusal 35 = .ok (.iconst 0, 1) := by decide +kernel
theorem dX9_refusal_36 : decode cX9_refusal 36 = .ok (.ireturn, 1) := by decide +kernel
theorem dX9_batches_0 : decode cX9_batches 0 = .ok (.aload_n 0, 1) := by decide +kernel
theorem dX9_batches_1 : decode cX9_batches 1 = .ok (.iconst 3, 1) := by decide +kernel
theorem dX9_batches_2 : decode cX9_batches 2 = .ok (.iconst 1, 1) := by decide +kernel
theorem dX9_batches_3 : decode cX9_batches 3 = .ok (.invokevirtual 108, 3) := by decide +kernel
theorem dX9_batches_6 : decode cX9_batches 6 = .ok (.istore_n 1, 1) := by decide +kernel
theorem dX9_batches_7 : decode cX9_batches 7 = .ok (.aload_n 0, 1) := by decide +kernel
theorem dX9_batches_8 : decode cX9_batches 8 = .ok (.iconst 3, 1) := by decide +kernel
theorem dX9_batches_9 : decode cX9_batches 9 = .ok (.iconst 2, 1) := by decide +kernel
theorem dX9_batches_10 : decode cX9_batches 10 = .ok (.invokevirtual 108, 3) := by decide +kernel
theorem dX9_batches_13 : decode cX9_batches 13 = .ok (.istore_n 2, 1) := by decide +kernel
theorem dX9_batches_14 : decode cX9_batches 14 = .ok (.aload_n 0, 1) := by decide +kernel
theorem dX9_batches_15 : decode cX9_batches 15 = .ok (.getfield 7, 3) := by decide +kernel
theorem dX9_batches_18 : decode cX9_batches 18 = .ok (.iconst 1, 1) := by decide +kernel
theorem dX9_batches_19 : decode cX9_batches 19 = .ok (.iaload, 1) := by decide +kernel
theorem dX9_batches_20 : decode cX9_batches 20 = .ok (.istore_n 3, 1) := by decide +kernel
theorem dX9_batches_21 : decode cX9_batches 21 = .ok (.aload_n 0, 1) := by decide +kernel
theorem dX9_batches_22 : decode cX9_batches 22 = .ok (.invokevirtual 130, 3) := by decide +kernel
theorem dX9_batches_25 : decode cX9_batches 25 = .ok (.aload_n 0, 1) := by decide +kernel
theorem dX9_batches_26 : decode cX9_batches 26 = .ok (.iload_n 2, 1) := by decide +kernel
theorem dX9_batches_27 : decode cX9_batches 27 = .ok (.iload_n 1, 1) := by decide +kernel
theorem dX9_batches_28 : decode cX9_batches 28 = .ok (.invokevirtual 133, 3) := by decide +kernel
theorem dX9_batches_31 : decode cX9_batches 31 = .ok (.iconst 0, 1) := by decide +kernel
theorem dX9_batches_32 : decode cX9_batches 32 = .ok (.istore 4, 2) := by decide +kernel
theorem dX9_batches_34 : decode cX9_batches 34 = .ok (.iload 4, 2) := by decide +kernel
theorem dX9_batches_36 : decode cX9_batches 36 = .ok (.bipush 16, 2) := by decide +kernel
theorem dX9_batches_38 : decode cX9_batches 38 = .ok (.if_icmp .ge 87, 3) := by decide +kernel
theorem dX9_batches_41 : decode cX9_batches 41 = .ok (.aload_n 0, 1) := by decide +kernel
theorem dX9_batches_42 : decode cX9_batches 42 = .ok (.iload 4, 2) := by decide +kernel
theorem dX9_batches_44 : decode cX9_batches 44 = .ok (.iconst 0, 1) := by decide +kernel
theorem dX9_batches_45 : decode cX9_batches 45 = .ok (.aload_n 0, 1) := by decide +kernel
theorem dX9_batches_46 : decode cX9_batches 46 = .ok (.getfield 13, 3) := by decide +kernel
theorem dX9_batches_49 : decode cX9_batches 49 = .ok (.iload 4, 2) := by decide +kernel
theorem dX9_batches_51 : decode cX9_batches 51 = .ok (.iaload, 1) := by decide +kernel
theorem dX9_batches_52 : decode cX9_batches 52 = .ok (.invokevirtual 104, 3) := by decide +kernel
theorem dX9_batches_55 : decode cX9_batches 55 = .ok (.aload_n 0, 1) := by decide +kernel
theorem dX9_batches_56 : decode cX9_batches 56 = .ok (.iload 4, 2) := by decide +kernel
theorem dX9_batches_58 : decode cX9_batches 58 = .ok (.iconst 3, 1) := by decide +kernel
theorem dX9_batches_59 : decode cX9_batches 59 = .ok (.invokevirtual 64, 3) := by decide +kernel
theorem dX9_batches_62 : decode cX9_batches 62 = .ok (.ifCond .le 49, 3) := by decide +kernel
theorem dX9_batches_65 : decode cX9_batches 65 = .ok (.aload_n 0, 1) := by decide +kernel
theorem dX9_batches_66 : decode cX9_batches 66 = .ok (.iload 4, 2) := by decide +kernel
theorem dX9_batches_68 : decode cX9_batches 68 = .ok (.iconst 1, 1) := by decide +kernel
theorem dX9_batches_69 : decode cX9_batches 69 = .ok (.iconst 0, 1) := by decide +kernel
theorem dX9_batches_70 : decode cX9_batches 70 = .ok (.invokevirtual 104, 3) := by decide +kernel
theorem dX9_batches_73 : decode cX9_batches 73 = .ok (.aload_n 0, 1) := by decide +kernel
theorem dX9_batches_74 : decode cX9_batches 74 = .ok (.iload 4, 2) := by decide +kernel
theorem dX9_batches_76 : decode cX9_batches 76 = .ok (.iconst 2, 1) := by decide +kernel
theorem dX9_batches_77 : decode cX9_batches 77 = .ok (.iload_n 3, 1) := by decide +kernel
theorem dX9_batches_78 : decode cX9_batches 78 = .ok (.invokevirtual 104, 3) := by decide +kernel
theorem dX9_batches_81 : decode cX9_batches 81 = .ok (.aload_n 0, 1) := by decide +kernel
theorem dX9_batches_82 : decode cX9_batches 82 = .ok (.iload 4, 2) := by decide +kernel
theorem dX9_batches_84 : decode cX9_batches 84 = .ok (.aload_n 0, 1) := by decide +kernel
theorem dX9_batches_85 : decode cX9_batches 85 = .ok (.iload 4, 2) := by decide +kernel
theorem dX9_batches_87 : decode cX9_batches 87 = .ok (.iconst 3, 1) := by decide +kernel
theorem dX9_batches_88 : decode cX9_batches 88 = .ok (.invokevirtual 64, 3) := by decide +kernel
theorem dX9_batches_91 : decode cX9_batches 91 = .ok (.iconst 1, 1) := by decide +kernel
theorem dX9_batches_92 : decode cX9_batches 92 = .ok (.if_icmp .ne 7, 3) := by decide +kernel
theorem dX9_batches_95 : decode cX9_batches 95 = .ok (.iconst 4, 1) := by decide +kernel
theorem dX9_batches_96 : decode cX9_batches 96 = .ok (.goto 4, 3) := by decide +kernel
theorem dX9_batches_99 : decode cX9_batches 99 = .ok (.iconst 5, 1) := by decide +kernel
theorem dX9_batches_100 : decode cX9_batches 100 = .ok (.aload_n 0, 1) := by decide +kernel
theorem dX9_batches_101 : decode cX9_batches 101 = .ok (.getfield 7, 3) := by decide +kernel
theorem dX9_batches_104 : decode cX9_batches 104 = .ok (.iconst 2, 1) := by decide +kernel
theorem dX9_batches_105 : decode cX9_batches 105 = .ok (.iaload, 1) := by decide +kernel
theorem dX9_batches_106 : decode cX9_batches 106 = .ok (.iconst 1, 1) := by decide +kernel
theorem dX9_batches_107 : decode cX9_batches 107 = .ok (.iadd, 1) := by decide +kernel
theorem dX9_batches_108 : decode cX9_batches 108 = .ok (.invokevirtual 104, 3) := by decide +kernel
theorem dX9_batches_111 : decode cX9_batches 111 = .ok (.aload_n 0, 1) := by decide +kernel
theorem dX9_batches_112 : decode cX9_batches 112 = .ok (.iload 4, 2) := by decide +kernel
theorem dX9_batches_114 : decode cX9_batches 114 = .ok (.iconst 3, 1) := by decide +kernel
theorem dX9_batches_115 : decode cX9_batches 115 = .ok (.iconst 0, 1) := by decide +kernel
theorem dX9_batches_116 : decode cX9_batches 116 = .ok (.invokevirtual 104, 3) := by decide +kernel
theorem dX9_batches_119 : decode cX9_batches 119 = .ok (.iinc 4 1, 3) := by decide +kernel
theorem dX9_batches_122 : decode cX9_batches 122 = .ok (.goto (-88), 3) := by decide +kernel
theorem dX9_batches_125 : decode cX9_batches 125 = .ok (.bipush 31, 2) := by decide +kernel
theorem dX9_batches_127 : decode cX9_batches 127 = .ok (.istore 4, 2) := by decide +kernel
theorem dX9_batches_129 : decode cX9_batches 129 = .ok (.iload 4, 2) := by decide +kernel
theorem dX9_batches_131 : decode cX9_batches 131 = .ok (.ifCond .le 64, 3) := by decide +kernel
theorem dX9_batches_134 : decode cX9_batches 134 = .ok (.aload_n 0, 1) := by decide +kernel
theorem dX9_batches_135 : decode cX9_batches 135 = .ok (.getfield 16, 3) := by decide +kernel
theorem dX9_batches_138 : decode cX9_batches 138 = .ok (.iload 4, 2) := by decide +kernel
theorem dX9_batches_140 : decode cX9_batches 140 = .ok (.baload, 1) := by decide +kernel
theorem dX9_batches_141 : decode cX9_batches 141 = .ok (.ifCond .eq 48, 3) := by decide +kernel
theorem dX9_batches_144 : decode cX9_batches 144 = .ok (.aload_n 0, 1) := by decide +kernel
theorem dX9_batches_145 : decode cX9_batches 145 = .ok (.iload 4, 2) := by decide +kernel
theorem dX9_batches_147 : decode cX9_batches 147 = .ok (.invokevirtual 84, 3) := by decide +kernel
theorem dX9_batches_150 : decode cX9_batches 150 = .ok (.ifCond .eq 39, 3) := by decide +kernel
theorem dX9_batches_153 : decode cX9_batches 153 = .ok (.aload_n 0, 1) := by decide +kernel
theorem dX9_batches_154 : decode cX9_batches 154 = .ok (.iload 4, 2) := by decide +kernel
theorem dX9_batches_156 : decode cX9_batches 156 = .ok (.invokevirtual 137, 3) := by decide +kernel
theorem dX9_batches_159 : decode cX9_batches 159 = .ok (.istore 5, 2) := by decide +kernel
theorem dX9_batches_161 : decode cX9_batches 161 = .ok (.aload_n 0, 1) := by decide +kernel
theorem dX9_batches_162 : decode cX9_batches 162 = .ok (.getfield 7, 3) := by decide +kernel
theorem dX9_batches_165 : decode cX9_batches 165 = .ok (.sipush 330, 3) := by decide +kernel
theorem dX9_batches_168 : decode cX9_batches 168 = .ok (.iload 5, 2) := by decide +kernel
theorem dX9_batches_170 : decode cX9_batches 170 = .ok (.iadd, 1) := by decide +kernel
theorem dX9_batches_171 : decode cX9_batches 171 = .ok (.iload 4, 2) := by decide +kernel
theorem dX9_batches_173 : decode cX9_batches 173 = .ok (.bipush 15, 2) := by decide +kernel
theorem dX9_batches_175 : decode cX9_batches 175 = .ok (.if_icmp .le 12, 3) := by decide +kernel
theorem dX9_batches_178 : decode cX9_batches 178 = .ok (.aload_n 0, 1) := by decide +kernel
theorem dX9_batches_179 : decode cX9_batches 179 = .ok (.iload 4, 2) := by decide +kernel
theorem dX9_batches_181 : decode cX9_batches 181 = .ok (.invokevirtual 84, 3) := by decide +kernel
theorem dX9_batches_184 : decode cX9_batches 184 = .ok (.goto 4, 3) := by decide +kernel
theorem dX9_batches_187 : decode cX9_batches 187 = .ok (.iconst 0, 1) := by decide +kernel
theorem dX9_batches_188 : decode cX9_batches 188 = .ok (.iastore, 1) := by decide +kernel
theorem dX9_batches_189 : decode cX9_batches 189 = .ok (.iinc 4 (-1), 3) := by decide +kernel
theorem dX9_batches_192 : decode cX9_batches 192 = .ok (.goto (-63), 3) := by decide +kernel
theorem dX9_batches_195 : decode cX9_batches 195 = .ok (.bipush 15, 2) := by decide +kernel
theorem dX9_batches_197 : decode cX9_batches 197 = .ok (.istore 4, 2) := by decide +kernel
theorem dX9_batches_199 : decode cX9_batches 199 = .ok (.iload 4, 2) := by decide +kernel
theorem dX9_batches_201 : decode cX9_batches 201 = .ok (.ifCond .le 73, 3) := by decide +kernel
theorem dX9_batches_204 : decode cX9_batches 204 = .ok (.iconst 2, 1) := by decide +kernel
theorem dX9_batches_205 : decode cX9_batches 205 = .ok (.iload 4, 2) := by decide +kernel
theorem dX9_batches_207 : decode cX9_batches 207 = .ok (.imul, 1) := by decide +kernel
theorem dX9_batches_208 : decode cX9_batches 208 = .ok (.istore 5, 2) := by decide +kernel
theorem dX9_batches_210 : decode cX9_batches 210 = .ok (.iload 5, 2) := by decide +kernel
theorem dX9_batches_212 : decode cX9_batches 212 = .ok (.iconst 2, 1) := by decide +kernel
theorem dX9_batches_213 : decode cX9_batches 213 = .ok (.iload 4, 2) := by decide +kernel
theorem dX9_batches_215 : decode cX9_batches 215 = .ok (.imul, 1) := by decide +kernel
theorem dX9_batches_216 : decode cX9_batches 216 = .ok (.iconst 2, 1) := by decide +kernel
theorem dX9_batches_217 : decode cX9_batches 217 = .ok (.iadd, 1) := by decide +kernel
theorem dX9_batches_218 : decode cX9_batches 218 = .ok (.if_icmp .ge 50, 3) := by decide +kernel
theorem dX9_batches_221 : decode cX9_batches 221 = .ok (.aload_n 0, 1) := by decide +kernel
theorem dX9_batches_222 : decode cX9_batches 222 = .ok (.getfield 16, 3) := by decide +kernel
theorem dX9_batches_225 : decode cX9_batches 225 = .ok (.iload 4, 2) := by decide +kernel
theorem dX9_batches_227 : decode cX9_batches 227 = .ok (.baload, 1) := by decide +kernel
theorem dX9_batches_228 : decode cX9_batches 228 = .ok (.ifCond .eq 34, 3) := by decide +kernel
theorem dX9_batches_231 : decode cX9_batches 231 = .ok (.aload_n 0, 1) := by decide +kernel
theorem dX9_batches_232 : decode cX9_batches 232 = .ok (.iload 5, 2) := by decide +kernel
theorem dX9_batches_234 : decode cX9_batches 234 = .ok (.invokevirtual 84, 3) := by decide +kernel
theorem dX9_batches_237 : decode cX9_batches 237 = .ok (.ifCond .eq 25, 3) := by decide +kernel
theorem dX9_batches_240 : decode cX9_batches 240 = .ok (.aload_n 0, 1) := by decide +kernel
theorem dX9_batches_241 : decode cX9_batches 241 = .ok (.aload_n 0, 1) := by decide +kernel
theorem dX9_batches_242 : decode cX9_batches 242 = .ok (.iload 4, 2) := by decide +kernel
theorem dX9_batches_244 : decode cX9_batches 244 = .ok (.invokevirtual 140, 3) := by decide +kernel
theorem dX9_batches_247 : decode cX9_batches 247 = .ok (.aload_n 0, 1) := by decide +kernel
theorem dX9_batches_248 : decode cX9_batches 248 = .ok (.iload 5, 2) := by decide +kernel
theorem dX9_batches_250 : decode cX9_batches 250 = .ok (.invokevirtual 140, 3) := by decide +kernel
theorem dX9_batches_253 : decode cX9_batches 253 = .ok (.aload_n 0, 1) := by decide +kernel
theorem dX9_batches_254 : decode cX9_batches 254 = .ok (.getfield 7, 3) := by decide +kernel
theorem dX9_batches_257 : decode cX9_batches 257 = .ok (.iconst 2, 1) := by decide +kernel
theorem dX9_batches_258 : decode cX9_batches 258 = .ok (.iaload, 1) := by decide +kernel
theorem dX9_batches_259 : decode cX9_batches 259 = .ok (.invokevirtual 143, 3) := by decide +kernel
theorem dX9_batches_262 : decode cX9_batches 262 = .ok (.iinc 5 1, 3) := by decide +kernel
theorem dX9_batches_265 : decode cX9_batches 265 = .ok (.goto (-55), 3) := by decide +kernel
theorem dX9_batches_268 : decode cX9_batches 268 = .ok (.iinc 4 (-1), 3) := by decide +kernel
theorem dX9_batches_271 : decode cX9_batches 271 = .ok (.goto (-72), 3) := by decide +kernel
theorem dX9_batches_274 : decode cX9_batches 274 = .ok (.aload_n 0, 1) := by decide +kernel
theorem dX9_batches_275 : decode cX9_batches 275 = .ok (.getfield 7, 3) := by decide +kernel
theorem dX9_batches_278 : decode cX9_batches 278 = .ok (.iconst 2, 1) := by decide +kernel
theorem dX9_batches_279 : decode cX9_batches 279 = .ok (.dup2, 1) := by decide +kernel
theorem dX9_batches_280 : decode cX9_batches 280 = .ok (.iaload, 1) := by decide +kernel
theorem dX9_batches_281 : decode cX9_batches 281 = .ok (.iconst 1, 1) := by decide +kernel
theorem dX9_batches_282 : decode cX9_batches 282 = .ok (.iadd, 1) := by decide +kernel
theorem dX9_batches_283 : decode cX9_batches 283 = .ok (.iastore, 1) := by decide +kernel
theorem dX9_batches_284 : decode cX9_batches 284 = .ok (.aload_n 0, 1) := by decide +kernel
theorem dX9_batches_285 : decode cX9_batches 285 = .ok (.invokevirtual 146, 3) := by decide +kernel
theorem dX9_batches_288 : decode cX9_batches 288 = .ok (.aload_n 0, 1) := by decide +kernel
theorem dX9_batches_289 : decode cX9_batches 289 = .ok (.getfield 7, 3) := by decide +kernel
theorem dX9_batches_292 : decode cX9_batches 292 = .ok (.iconst 1, 1) := by decide +kernel
theorem dX9_batches_293 : decode cX9_batches 293 = .ok (.iaload, 1) := by decide +kernel
theorem dX9_batches_294 : decode cX9_batches 294 = .ok (.iload_n 3, 1) := by decide +kernel
theorem dX9_batches_295 : decode cX9_batches 295 = .ok (.isub, 1) := by decide +kernel
theorem dX9_batches_296 : decode cX9_batches 296 = .ok (.ireturn, 1) := by decide +kernel
theorem dX9_batch_0 : decode cX9_batch 0 = .ok (.aload_n 0, 1) := by decide +kernel
theorem dX9_batch_1 : decode cX9_batch 1 = .ok (.invokevirtual 149, 3) := by decide +kernel
theorem dX9_batch_4 : decode cX9_batch 4 = .ok (.istore_n 1, 1) := by decide +kernel
theorem dX9_batch_5 : decode cX9_batch 5 = .ok (.iload_n 1, 1) := by decide +kernel
theorem dX9_batch_6 : decode cX9_batch 6 = .ok (.ifCond .ge 5, 3) := by decide +kernel
theorem dX9_batch_9 : decode cX9_batch 9 = .ok (.iload_n 1, 1) := by decide +kernel
theorem dX9_batch_10 : decode cX9_batch 10 = .ok (.ireturn, 1) := by decide +kernel
theorem dX9_batch_11 : decode cX9_batch 11 = .ok (.aload_n 0, 1) := by decide +kernel
theorem dX9_batch_12 : decode cX9_batch 12 = .ok (.invokevirtual 101, 3) := by decide +kernel
theorem dX9_batch_15 : decode cX9_batch 15 = .ok (.aload_n 0, 1) := by decide +kernel
theorem dX9_batch_16 : decode cX9_batch 16 = .ok (.invokevirtual 152, 3) := by decide +kernel
theorem dX9_batch_19 : decode cX9_batch 19 = .ok (.ireturn, 1) := by decide +kernel
theorem dX9_late_0 : decode cX9_late 0 = .ok (.iload_n 1, 1) := by decide +kernel
theorem dX9_late_1 : decode cX9_late 1 = .ok (.invokestatic 98, 3) := by decide +kernel
theorem dX9_late_4 : decode cX9_late 4 = .ok (.ifCond .eq 13, 3) := by decide +kernel
theorem dX9_late_7 : decode cX9_late 7 = .ok (.iload_n 2, 1) := by decide +kernel
theorem dX9_late_8 : decode cX9_late 8 = .ok (.i2l, 1) := by decide +kernel
theorem dX9_late_9 : decode cX9_late 9 = .ok (.lconst 0, 1) := by decide +kernel
theorem dX9_late_10 : decode cX9_late 10 = .ok (.lconst 1, 1) := by decide +kernel
theorem dX9_late_11 : decode cX9_late 11 = .ok (.invokestatic 60, 3) := by decide +kernel
theorem dX9_late_14 : decode cX9_late 14 = .ok (.ifCond .ne 5, 3) := by decide +kernel
theorem dX9_late_17 : decode cX9_late 17 = .ok (.iconst (-1), 1) := by decide +kernel
theorem dX9_late_18 : decode cX9_late 18 = .ok (.ireturn, 1) := by decide +kernel
theorem dX9_late_19 : decode cX9_late 19 = .ok (.aload_n 0, 1) := by decide +kernel
theorem dX9_late_20 : decode cX9_late 20 = .ok (.iload_n 1, 1) := by decide +kernel
theorem dX9_late_21 : decode cX9_late 21 = .ok (.invokevirtual 68, 3) := by decide +kernel
theorem dX9_late_24 : decode cX9_late 24 = .ok (.ifCond .eq 13, 3) := by decide +kernel
theorem dX9_late_27 : decode cX9_late 27 = .ok (.aload_n 0, 1) := by decide +kernel
theorem dX9_late_28 : decode cX9_late 28 = .ok (.iload_n 1, 1) := by decide +kernel
theorem dX9_late_29 : decode cX9_late 29 = .ok (.iconst 1, 1) := by decide +kernel
theorem dX9_late_30 : decode cX9_late 30 = .ok (.invokevirtual 64, 3) := by decide +kernel
theorem dX9_late_33 : decode cX9_late 33 = .ok (.iload_n 2, 1) := by decide +kernel
theorem dX9_late_34 : decode cX9_late 34 = .ok (.if_icmp .ne 6, 3) := by decide +kernel
theorem dX9_late_37 : decode cX9_late 37 = .ok (.bipush (-2), 2) := by decide +kernel
theorem dX9_late_39 : decode cX9_late 39 = .ok (.ireturn, 1) := by decide +kernel
theorem dX9_late_40 : decode cX9_late 40 = .ok (.aload_n 0, 1) := by decide +kernel
theorem dX9_late_41 : decode cX9_late 41 = .ok (.invokevirtual 101, 3) := by decide +kernel
theorem dX9_late_44 : decode cX9_late 44 = .ok (.aload_n 0, 1) := by decide +kernel
theorem dX9_late_45 : decode cX9_late 45 = .ok (.iload_n 1, 1) := by decide +kernel
theorem dX9_late_46 : decode cX9_late 46 = .ok (.iconst 1, 1) := by decide +kernel
theorem dX9_late_47 : decode cX9_late 47 = .ok (.iload_n 2, 1) := by decide +kernel
theorem dX9_late_48 : decode cX9_late 48 = .ok (.invokevirtual 104, 3) := by decide +kernel
theorem dX9_late_51 : decode cX9_late 51 = .ok (.iload_n 2, 1) := by decide +kernel
theorem dX9_late_52 : decode cX9_late 52 = .ok (.iconst 1, 1) := by decide +kernel
theorem dX9_late_53 : decode cX9_late 53 = .ok (.if_icmp .ne 7, 3) := by decide +kernel
theorem dX9_late_56 : decode cX9_late 56 = .ok (.iconst 0, 1) := by decide +kernel
theorem dX9_late_57 : decode cX9_late 57 = .ok (.goto 8, 3) := by decide +kernel
theorem dX9_late_60 : decode cX9_late 60 = .ok (.aload_n 0, 1) := by decide +kernel
theorem dX9_late_61 : decode cX9_late 61 = .ok (.iload_n 1, 1) := by decide +kernel
theorem dX9_late_62 : decode cX9_late 62 = .ok (.invokevirtual 123, 3) := by decide +kernel
theorem dX9_late_65 : decode cX9_late 65 = .ok (.ireturn, 1) := by decide +kernel
theorem dX9_lose_0 : decode cX9_lose 0 = .ok (.iload_n 1, 1) := by decide +kernel
theorem dX9_lose_1 : decode cX9_lose 1 = .ok (.invokestatic 98, 3) := by decide +kernel
theorem dX9_lose_4 : decode cX9_lose 4 = .ok (.ifCond .eq 15, 3) := by decide +kernel
theorem dX9_lose_7 : decode cX9_lose 7 = .ok (.iload_n 2, 1) := by decide +kernel
theorem dX9_lose_8 : decode cX9_lose 8 = .ok (.i2l, 1) := by decide +kernel
theorem dX9_lose_9 : decode cX9_lose 9 = .ok (.lconst 1, 1) := by decide +kernel
theorem dX9_lose_10 : decode cX9_lose 10 = .ok (.ldc2_w 155, 3) := by decide +kernel
theorem dX9_lose_13 : decode cX9_lose 13 = .ok (.invokestatic 60, 3) := by decide +kernel
theorem dX9_lose_16 : decode cX9_lose 16 = .ok (.ifCond .ne 5, 3) := by decide +kernel
theorem dX9_lose_19 : decode cX9_lose 19 = .ok (.iconst (-1), 1) := by decide +kernel
theorem dX9_lose_20 : decode cX9_lose 20 = .ok (.ireturn, 1) := by decide +kernel
theorem dX9_lose_21 : decode cX9_lose 21 = .ok (.aload_n 0, 1) := by decide +kernel
theorem dX9_lose_22 : decode cX9_lose 22 = .ok (.iload_n 1, 1) := by decide +kernel
theorem dX9_lose_23 : decode cX9_lose 23 = .ok (.iconst 1, 1) := by decide +kernel
theorem dX9_lose_24 : decode cX9_lose 24 = .ok (.invokevirtual 64, 3) := by decide +kernel
theorem dX9_lose_27 : decode cX9_lose 27 = .ok (.ifCond .ne 6, 3) := by decide +kernel
theorem dX9_lose_30 : decode cX9_lose 30 = .ok (.bipush (-2), 2) := by decide +kernel
theorem dX9_lose_32 : decode cX9_lose 32 = .ok (.ireturn, 1) := by decide +kernel
theorem dX9_lose_33 : decode cX9_lose 33 = .ok (.aload_n 0, 1) := by decide +kernel
theorem dX9_lose_34 : decode cX9_lose 34 = .ok (.invokevirtual 101, 3) := by decide +kernel
theorem dX9_lose_37 : decode cX9_lose 37 = .ok (.aload_n 0, 1) := by decide +kernel
theorem dX9_lose_38 : decode cX9_lose 38 = .ok (.getfield 7, 3) := by decide +kernel
theorem dX9_lose_41 : decode cX9_lose 41 = .ok (.iconst 1, 1) := by decide +kernel
theorem dX9_lose_42 : decode cX9_lose 42 = .ok (.iaload, 1) := by decide +kernel
theorem dX9_lose_43 : decode cX9_lose 43 = .ok (.aload_n 0, 1) := by decide +kernel
theorem dX9_lose_44 : decode cX9_lose 44 = .ok (.iload_n 1, 1) := by decide +kernel
theorem dX9_lose_45 : decode cX9_lose 45 = .ok (.iconst 2, 1) := by decide +kernel
theorem dX9_lose_46 : decode cX9_lose 46 = .ok (.invokevirtual 64, 3) := by decide +kernel
theorem dX9_lose_49 : decode cX9_lose 49 = .ok (.isub, 1) := by decide +kernel
theorem dX9_lose_50 : decode cX9_lose 50 = .ok (.istore_n 3, 1) := by decide +kernel
theorem dX9_lose_51 : decode cX9_lose 51 = .ok (.iload_n 3, 1) := by decide +kernel
theorem dX9_lose_52 : decode cX9_lose 52 = .ok (.iload_n 2, 1) := by decide +kernel
theorem dX9_lose_53 : decode cX9_lose 53 = .ok (.if_icmp .ge 7, 3) := by decide +kernel
theorem dX9_lose_56 : decode cX9_lose 56 = .ok (.iload_n 3, 1) := by decide +kernel
theorem dX9_lose_57 : decode cX9_lose 57 = .ok (.goto 4, 3) := by decide +kernel
theorem dX9_lose_60 : decode cX9_lose 60 = .ok (.iload_n 2, 1) := by decide +kernel
theorem dX9_lose_61 : decode cX9_lose 61 = .ok (.istore 4, 2) := by decide +kernel
theorem dX9_lose_63 : decode cX9_lose 63 = .ok (.aload_n 0, 1) := by decide +kernel
theorem dX9_lose_64 : decode cX9_lose 64 = .ok (.iload_n 1, 1) := by decide +kernel
theorem dX9_lose_65 : decode cX9_lose 65 = .ok (.iconst 2, 1) := by decide +kernel
theorem dX9_lose_66 : decode cX9_lose 66 = .ok (.aload_n 0, 1) := by decide +kernel
theorem dX9_lose_67 : decode cX9_lose 67 = .ok (.iload_n 1, 1) := by decide +kernel
theorem dX9_lose_68 : decode cX9_lose 68 = .ok (.iconst 2, 1) := by decide +kernel
theorem dX9_lose_69 : decode cX9_lose 69 = .ok (.invokevirtual 64, 3) := by decide +kernel
theorem dX9_lose_72 : decode cX9_lose 72 = .ok (.iload 4, 2) := by decide +kernel
theorem dX9_lose_74 : decode cX9_lose 74 = .ok (.iadd, 1) := by decide +kernel
theorem dX9_lose_75 : decode cX9_lose 75 = .ok (.invokevirtual 104, 3) := by decide +kernel
theorem dX9_lose_78 : decode cX9_lose 78 = .ok (.iload 4, 2) := by decide +kernel
theorem dX9_lose_80 : decode cX9_lose 80 = .ok (.ireturn, 1) := by decide +kernel
theorem dX9_lacks_0 : decode cX9_lacks 0 = .ok (.iconst 0, 1) := by decide +kernel
theorem dX9_lacks_1 : decode cX9_lacks 1 = .ok (.istore_n 2, 1) := by decide +kernel
theorem dX9_lacks_2 : decode cX9_lacks 2 = .ok (.aload_n 0, 1) := by decide +kernel
theorem dX9_lacks_3 : decode cX9_lacks 3 = .ok (.iload_n 1, 1) := by decide +kernel
theorem dX9_lacks_4 : decode cX9_lacks 4 = .ok (.iconst 0, 1) := by decide +kernel
theorem dX9_lacks_5 : decode cX9_lacks 5 = .ok (.invokevirtual 64, 3) := by decide +kernel
theorem dX9_lacks_8 : decode cX9_lacks 8 = .ok (.iconst 2, 1) := by decide +kernel
theorem dX9_lacks_9 : decode cX9_lacks 9 = .ok (.idiv, 1) := by decide +kernel
theorem dX9_lacks_10 : decode cX9_lacks 10 = .ok (.istore_n 3, 1) := by decide +kernel
theorem dX9_lacks_11 : decode cX9_lacks 11 = .ok (.iload_n 3, 1) := by decide +kernel
theorem dX9_lacks_12 : decode cX9_lacks 12 = .ok (.ifCond .le 31, 3) := by decide +kernel
theorem dX9_lacks_15 : decode cX9_lacks 15 = .ok (.iload_n 2, 1) := by decide +kernel
theorem dX9_lacks_16 : decode cX9_lacks 16 = .ok (.aload_n 0, 1) := by decide +kernel
theorem dX9_lacks_17 : decode cX9_lacks 17 = .ok (.iload_n 1, 1) := by decide +kernel
theorem dX9_lacks_18 : decode cX9_lacks 18 = .ok (.aload_n 0, 1) := by decide +kernel
theorem dX9_lacks_19 : decode cX9_lacks 19 = .ok (.iload_n 3, 1) := by decide +kernel
theorem dX9_lacks_20 : decode cX9_lacks 20 = .ok (.invokevirtual 140, 3) := by decide +kernel
theorem dX9_lacks_23 : decode cX9_lacks 23 = .ok (.invokevirtual 117, 3) := by decide +kernel
theorem dX9_lacks_26 : decode cX9_lacks 26 = .ok (.ifCond .eq 7, 3) := by decide +kernel
theorem dX9_lacks_29 : decode cX9_lacks 29 = .ok (.iconst 0, 1) := by decide +kernel
theorem dX9_lacks_30 : decode cX9_lacks 30 = .ok (.goto 4, 3) := by decide +kernel
theorem dX9_lacks_33 : decode cX9_lacks 33 = .ok (.iconst 1, 1) := by decide +kernel
theorem dX9_lacks_34 : decode cX9_lacks 34 = .ok (.iadd, 1) := by decide +kernel
theorem dX9_lacks_35 : decode cX9_lacks 35 = .ok (.istore_n 2, 1) := by decide +kernel
theorem dX9_lacks_36 : decode cX9_lacks 36 = .ok (.iload_n 3, 1) := by decide +kernel
theorem dX9_lacks_37 : decode cX9_lacks 37 = .ok (.iconst 2, 1) := by decide +kernel
theorem dX9_lacks_38 : decode cX9_lacks 38 = .ok (.idiv, 1) := by decide +kernel
theorem dX9_lacks_39 : decode cX9_lacks 39 = .ok (.istore_n 3, 1) := by decide +kernel
theorem dX9_lacks_40 : decode cX9_lacks 40 = .ok (.goto (-29), 3) := by decide +kernel
theorem dX9_lacks_43 : decode cX9_lacks 43 = .ok (.iload_n 2, 1) := by decide +kernel
theorem dX9_lacks_44 : decode cX9_lacks 44 = .ok (.ireturn, 1) := by decide +kernel
theorem dX9_mendRefusal_0 : decode cX9_mendRefusal 0 = .ok (.aload_n 0, 1) := by decide +kernel
theorem dX9_mendRefusal_1 : decode cX9_mendRefusal 1 = .ok (.iload_n 1, 1) := by decide +kernel
theorem dX9_mendRefusal_2 : decode cX9_mendRefusal 2 = .ok (.invokevirtual 68, 3) := by decide +kernel
theorem dX9_mendRefusal_5 : decode cX9_mendRefusal 5 = .ok (.ifCond .eq 21, 3) := by decide +kernel
theorem dX9_mendRefusal_8 : decode cX9_mendRefusal 8 = .ok (.aload_n 0, 1) := by decide +kernel
theorem dX9_mendRefusal_9 : decode cX9_mendRefusal 9 = .ok (.iload_n 1, 1) := by decide +kernel
theorem dX9_mendRefusal_10 : decode cX9_mendRefusal 10 = .ok (.iconst 1, 1) := by decide +kernel
theorem dX9_mendRefusal_11 : decode cX9_mendRefusal 11 = .ok (.invokevirtual 64, 3) := by decide +kernel
theorem dX9_mendRefusal_14 : decode cX9_mendRefusal 14 = .ok (.iconst 1, 1) := by decide +kernel
theorem dX9_mendRefusal_15 : decode cX9_mendRefusal 15 = .ok (.if_icmp .eq 11, 3) := by decide +kernel
theorem dX9_mendRefusal_18 : decode cX9_mendRefusal 18 = .ok (.aload_n 0, 1) := by decide +kernel
theorem dX9_mendRefusal_19 : decode cX9_mendRefusal 19 = .ok (.iload_n 1, 1) := by decide +kernel
theorem dX9_mendRefusal_20 : decode cX9_mendRefusal 20 = .ok (.invokevirtual 157, 3) := by decide +kernel
theorem dX9_mendRefusal_23 : decode cX9_mendRefusal 23 = .ok (.ifCond .ne 8, 3) := by decide +kernel
theorem dX9_mendRefusal_26 : decode cX9_mendRefusal 26 = .ok (.bipush (-2), 2) := by decide +kernel
theorem dX9_mendRefusal_28 : decode cX9_mendRefusal 28 = .ok (.goto 16, 3) := by decide +kernel
theorem dX9_mendRefusal_31 : decode cX9_mendRefusal 31 = .ok (.aload_n 0, 1) := by decide +kernel
theorem dX9_mendRefusal_32 : decode cX9_mendRefusal 32 = .ok (.invokevirtual 126, 3) := by decide +kernel
theorem dX9_mendRefusal_35 : decode cX9_mendRefusal 35 = .ok (.ifCond .eq 8, 3) := by decide +kernel
theorem dX9_mendRefusal_38 : decode cX9_mendRefusal 38 = .ok (.bipush (-3), 2) := by decide +kernel
theorem dX9_mendRefusal_40 : decode cX9_mendRefusal 40 = .ok (.goto 4, 3) := by decide +kernel
theorem dX9_mendRefusal_43 : decode cX9_mendRefusal 43 = .ok (.iconst 0, 1) := by decide +kernel
theorem dX9_mendRefusal_44 : decode cX9_mendRefusal 44 = .ok (.ireturn, 1) := by decide +kernel
theorem dX9_mends_0 : decode cX9_mends 0 = .ok (.aload_n 0, 1) := by decide +kernel
theorem dX9_mends_1 : decode cX9_mends 1 = .ok (.getfield 7, 3) := by decide +kernel
theorem dX9_mends_4 : decode cX9_mends 4 = .ok (.iconst 1, 1) := by decide +kernel
theorem dX9_mends_5 : decode cX9_mends 5 = .ok (.iaload, 1) := by decide +kernel
theorem dX9_mends_6 : decode cX9_mends 6 = .ok (.istore_n 2, 1) := by decide +kernel
theorem dX9_mends_7 : decode cX9_mends 7 = .ok (.aload_n 0, 1) := by decide +kernel
theorem dX9_mends_8 : decode cX9_mends 8 = .ok (.iload_n 1, 1) := by decide +kernel
theorem dX9_mends_9 : decode cX9_mends 9 = .ok (.iconst 0, 1) := by decide +kernel
theorem dX9_mends_10 : decode cX9_mends 10 = .ok (.invokevirtual 64, 3) := by decide +kernel
theorem dX9_mends_13 : decode cX9_mends 13 = .ok (.iconst 2, 1) := by decide +kernel
theorem dX9_mends_14 : decode cX9_mends 14 = .ok (.idiv, 1) := by decide +kernel
theorem dX9_mends_15 : decode cX9_mends 15 = .ok (.istore_n 3, 1) := by decide +kernel
theorem dX9_mends_16 : decode cX9_mends 16 = .ok (.iload_n 3, 1) := by decide +kernel
theorem dX9_mends_17 : decode cX9_mends 17 = .ok (.ifCond .le 43, 3) := by decide +kernel
theorem dX9_mends_20 : decode cX9_mends 20 = .ok (.aload_n 0, 1) := by decide +kernel
theorem dX9_mends_21 : decode cX9_mends 21 = .ok (.iload_n 1, 1) := by decide +kernel
theorem dX9_mends_22 : decode cX9_mends 22 = .ok (.aload_n 0, 1) := by decide +kernel
theorem dX9_mends_23 : decode cX9_mends 23 = .ok (.iload_n 3, 1) := by decide +kernel
theorem dX9_mends_24 : decode cX9_mends 24 = .ok (.invokevirtual 140, 3) := by decide +kernel
theorem dX9_mends_27 : decode cX9_mends 27 = .ok (.invokevirtual 117, 3) := by decide +kernel
theorem dX9_mends_30 : decode cX9_mends 30 = .ok (.ifCond .ne 23, 3) := by decide +kernel
theorem dX9_mends_33 : decode cX9_mends 33 = .ok (.aload_n 0, 1) := by decide +kernel
theorem dX9_mends_34 : decode cX9_mends 34 = .ok (.aload_n 0, 1) := by decide +kernel
theorem dX9_mends_35 : decode cX9_mends 35 = .ok (.iload_n 3, 1) := by decide +kernel
theorem dX9_mends_36 : decode cX9_mends 36 = .ok (.invokevirtual 140, 3) := by decide +kernel
theorem dX9_mends_39 : decode cX9_mends 39 = .ok (.aload_n 0, 1) := by decide +kernel
theorem dX9_mends_40 : decode cX9_mends 40 = .ok (.aload_n 0, 1) := by decide +kernel
theorem dX9_mends_41 : decode cX9_mends 41 = .ok (.iload_n 1, 1) := by decide +kernel
theorem dX9_mends_42 : decode cX9_mends 42 = .ok (.iconst 0, 1) := by decide +kernel
theorem dX9_mends_43 : decode cX9_mends 43 = .ok (.invokevirtual 64, 3) := by decide +kernel
theorem dX9_mends_46 : decode cX9_mends 46 = .ok (.invokevirtual 140, 3) := by decide +kernel
theorem dX9_mends_49 : decode cX9_mends 49 = .ok (.iconst (-1), 1) := by decide +kernel
theorem dX9_mends_50 : decode cX9_mends 50 = .ok (.invokevirtual 143, 3) := by decide +kernel
theorem dX9_mends_53 : decode cX9_mends 53 = .ok (.iload_n 3, 1) := by decide +kernel
theorem dX9_mends_54 : decode cX9_mends 54 = .ok (.iconst 2, 1) := by decide +kernel
theorem dX9_mends_55 : decode cX9_mends 55 = .ok (.idiv, 1) := by decide +kernel
theorem dX9_mends_56 : decode cX9_mends 56 = .ok (.istore_n 3, 1) := by decide +kernel
theorem dX9_mends_57 : decode cX9_mends 57 = .ok (.goto (-41), 3) := by decide +kernel
theorem dX9_mends_60 : decode cX9_mends 60 = .ok (.aload_n 0, 1) := by decide +kernel
theorem dX9_mends_61 : decode cX9_mends 61 = .ok (.invokevirtual 146, 3) := by decide +kernel
theorem dX9_mends_64 : decode cX9_mends 64 = .ok (.aload_n 0, 1) := by decide +kernel
theorem dX9_mends_65 : decode cX9_mends 65 = .ok (.getfield 7, 3) := by decide +kernel
theorem dX9_mends_68 : decode cX9_mends 68 = .ok (.iconst 1, 1) := by decide +kernel
theorem dX9_mends_69 : decode cX9_mends 69 = .ok (.iaload, 1) := by decide +kernel
theorem dX9_mends_70 : decode cX9_mends 70 = .ok (.iload_n 2, 1) := by decide +kernel
theorem dX9_mends_71 : decode cX9_mends 71 = .ok (.isub, 1) := by decide +kernel
theorem dX9_mends_72 : decode cX9_mends 72 = .ok (.ireturn, 1) := by decide +kernel
theorem dX9_mend_0 : decode cX9_mend 0 = .ok (.iload_n 1, 1) := by decide +kernel
theorem dX9_mend_1 : decode cX9_mend 1 = .ok (.invokestatic 98, 3) := by decide +kernel
theorem dX9_mend_4 : decode cX9_mend 4 = .ok (.ifCond .ne 5, 3) := by decide +kernel
theorem dX9_mend_7 : decode cX9_mend 7 = .ok (.iconst (-1), 1) := by decide +kernel
theorem dX9_mend_8 : decode cX9_mend 8 = .ok (.ireturn, 1) := by decide +kernel
theorem dX9_mend_9 : decode cX9_mend 9 = .ok (.aload_n 0, 1) := by decide +kernel
theorem dX9_mend_10 : decode cX9_mend 10 = .ok (.iload_n 1, 1) := by decide +kernel
theorem dX9_mend_11 : decode cX9_mend 11 = .ok (.invokevirtual 160, 3) := by decide +kernel
theorem dX9_mend_14 : decode cX9_mend 14 = .ok (.istore_n 2, 1) := by decide +kernel
theorem dX9_mend_15 : decode cX9_mend 15 = .ok (.iload_n 2, 1) := by decide +kernel
theorem dX9_mend_16 : decode cX9_mend 16 = .ok (.ifCond .ge 5, 3) := by decide +kernel
theorem dX9_mend_19 : decode cX9_mend 19 = .ok (.iload_n 2, 1) := by decide +kernel
theorem dX9_mend_20 : decode cX9_mend 20 = .ok (.ireturn, 1) := by decide +kernel
theorem dX9_mend_21 : decode cX9_mend 21 = .ok (.aload_n 0, 1) := by decide +kernel
theorem dX9_mend_22 : decode cX9_mend 22 = .ok (.invokevirtual 101, 3) := by decide +kernel
theorem dX9_mend_25 : decode cX9_mend 25 = .ok (.aload_n 0, 1) := by decide +kernel
theorem dX9_mend_26 : decode cX9_mend 26 = .ok (.iload_n 1, 1) := by decide +kernel
theorem dX9_mend_27 : decode cX9_mend 27 = .ok (.invokevirtual 163, 3) := by decide +kernel
theorem dX9_mend_30 : decode cX9_mend 30 = .ok (.ireturn, 1) := by decide +kernel
theorem dX9_begin_0 : decode cX9_begin 0 = .ok (.aload_n 0, 1) := by decide +kernel
theorem dX9_begin_1 : decode cX9_begin 1 = .ok (.getfield 7, 3) := by decide +kernel
theorem dX9_begin_4 : decode cX9_begin 4 = .ok (.iconst 0, 1) := by decide +kernel
theorem dX9_begin_5 : decode cX9_begin 5 = .ok (.iaload, 1) := by decide +kernel
theorem dX9_begin_6 : decode cX9_begin 6 = .ok (.istore_n 1, 1) := by decide +kernel
theorem dX9_begin_7 : decode cX9_begin 7 = .ok (.iload_n 1, 1) := by decide +kernel
theorem dX9_begin_8 : decode cX9_begin 8 = .ok (.ifCond .ne 15, 3) := by decide +kernel
theorem dX9_begin_11 : decode cX9_begin 11 = .ok (.aload_n 0, 1) := by decide +kernel
theorem dX9_begin_12 : decode cX9_begin 12 = .ok (.iconst 3, 1) := by decide +kernel
theorem dX9_begin_13 : decode cX9_begin 13 = .ok (.iconst 1, 1) := by decide +kernel
theorem dX9_begin_14 : decode cX9_begin 14 = .ok (.invokevirtual 108, 3) := by decide +kernel
theorem dX9_begin_17 : decode cX9_begin 17 = .ok (.ifCond .ne 6, 3) := by decide +kernel
theorem dX9_begin_20 : decode cX9_begin 20 = .ok (.bipush (-2), 2) := by decide +kernel
theorem dX9_begin_22 : decode cX9_begin 22 = .ok (.ireturn, 1) := by decide +kernel
theorem dX9_begin_23 : decode cX9_begin 23 = .ok (.aload_n 0, 1) := by decide +kernel
theorem dX9_begin_24 : decode cX9_begin 24 = .ok (.invokevirtual 101, 3) := by decide +kernel
theorem dX9_begin_27 : decode cX9_begin 27 = .ok (.iconst 0, 1) := by decide +kernel
theorem dX9_begin_28 : decode cX9_begin 28 = .ok (.istore_n 2, 1) := by decide +kernel
theorem dX9_begin_29 : decode cX9_begin 29 = .ok (.iload_n 2, 1) := by decide +kernel
theorem dX9_begin_30 : decode cX9_begin 30 = .ok (.sipush 752, 3) := by decide +kernel
theorem dX9_begin_33 : decode cX9_begin 33 = .ok (.if_icmp .ge 30, 3) := by decide +kernel
theorem dX9_begin_36 : decode cX9_begin 36 = .ok (.aload_n 0, 1) := by decide +kernel
theorem dX9_begin_37 : decode cX9_begin 37 = .ok (.getfield 7, 3) := by decide +kernel
theorem dX9_begin_40 : decode cX9_begin 40 = .ok (.iload_n 2, 1) := by decide +kernel
theorem dX9_begin_41 : decode cX9_begin 41 = .ok (.iload_n 2, 1) := by decide +kernel
theorem dX9_begin_42 : decode cX9_begin 42 = .ok (.iconst 3, 1) := by decide +kernel
theorem dX9_begin_43 : decode cX9_begin 43 = .ok (.if_icmp .ne 12, 3) := by decide +kernel
theorem dX9_begin_46 : decode cX9_begin 46 = .ok (.aload_n 0, 1) := by decide +kernel
theorem dX9_begin_47 : decode cX9_begin 47 = .ok (.getfield 7, 3) := by decide +kernel
theorem dX9_begin_50 : decode cX9_begin 50 = .ok (.iload_n 2, 1) := by decide +kernel
theorem dX9_begin_51 : decode cX9_begin 51 = .ok (.iaload, 1) := by decide +kernel
theorem dX9_begin_52 : decode cX9_begin 52 = .ok (.goto 4, 3) := by decide +kernel
theorem dX9_begin_55 : decode cX9_begin 55 = .ok (.iconst 0, 1) := by decide +kernel
theorem dX9_begin_56 : decode cX9_begin 56 = .ok (.iastore, 1) := by decide +kernel
theorem dX9_begin_57 : decode cX9_begin 57 = .ok (.iinc 2 1, 3) := by decide +kernel
theorem dX9_begin_60 : decode cX9_begin 60 = .ok (.goto (-31), 3) := by decide +kernel
theorem dX9_begin_63 : decode cX9_begin 63 = .ok (.iload_n 1, 1) := by decide +kernel
theorem dX9_begin_64 : decode cX9_begin 64 = .ok (.ireturn, 1) := by decide +kernel
theorem dX9_lacking_0 : decode cX9_lacking 0 = .ok (.aload_n 0, 1) := by decide +kernel
theorem dX9_lacking_1 : decode cX9_lacking 1 = .ok (.iconst 1, 1) := by decide +kernel
theorem dX9_lacking_2 : decode cX9_lacking 2 = .ok (.invokevirtual 140, 3) := by decide +kernel
theorem dX9_lacking_5 : decode cX9_lacking 5 = .ok (.istore_n 1, 1) := by decide +kernel
theorem dX9_lacking_6 : decode cX9_lacking 6 = .ok (.iload_n 1, 1) := by decide +kernel
theorem dX9_lacking_7 : decode cX9_lacking 7 = .ok (.ifCond .ge 7, 3) := by decide +kernel
theorem dX9_lacking_10 : decode cX9_lacking 10 = .ok (.iconst 0, 1) := by decide +kernel
theorem dX9_lacking_11 : decode cX9_lacking 11 = .ok (.goto 22, 3) := by decide +kernel
theorem dX9_lacking_14 : decode cX9_lacking 14 = .ok (.aload_n 0, 1) := by decide +kernel
theorem dX9_lacking_15 : decode cX9_lacking 15 = .ok (.iconst 0, 1) := by decide +kernel
theorem dX9_lacking_16 : decode cX9_lacking 16 = .ok (.iconst 0, 1) := by decide +kernel
theorem dX9_lacking_17 : decode cX9_lacking 17 = .ok (.invokevirtual 108, 3) := by decide +kernel
theorem dX9_lacking_20 : decode cX9_lacking 20 = .ok (.aload_n 0, 1) := by decide +kernel
theorem dX9_lacking_21 : decode cX9_lacking 21 = .ok (.getfield 7, 3) := by decide +kernel
theorem dX9_lacking_24 : decode cX9_lacking 24 = .ok (.sipush 330, 3) := by decide +kernel
theorem dX9_lacking_27 : decode cX9_lacking 27 = .ok (.iload_n 1, 1) := by decide +kernel
theorem dX9_lacking_28 : decode cX9_lacking 28 = .ok (.iadd, 1) := by decide +kernel
theorem dX9_lacking_29 : decode cX9_lacking 29 = .ok (.iaload, 1) := by decide +kernel
theorem dX9_lacking_30 : decode cX9_lacking 30 = .ok (.iconst (-1), 1) := by decide +kernel
theorem dX9_lacking_31 : decode cX9_lacking 31 = .ok (.ixor, 1) := by decide +kernel
theorem dX9_lacking_32 : decode cX9_lacking 32 = .ok (.iand, 1) := by decide +kernel
theorem dX9_lacking_33 : decode cX9_lacking 33 = .ok (.ireturn, 1) := by decide +kernel
theorem dX9_count_0 : decode cX9_count 0 = .ok (.iload_n 1, 1) := by decide +kernel
theorem dX9_count_1 : decode cX9_count 1 = .ok (.tableswitch 110 0 8 #[51, 58, 65, 72, 79, 86, 93, 100, 105], 51) := by decide +kernel
theorem dX9_count_52 : decode cX9_count 52 = .ok (.aload_n 0, 1) := by decide +kernel
theorem dX9_count_53 : decode cX9_count 53 = .ok (.iconst 0, 1) := by decide +kernel
theorem dX9_count_54 : decode cX9_count 54 = .ok (.iconst 0, 1) := by decide +kernel
theorem dX9_count_55 : decode cX9_count 55 = .ok (.invokevirtual 108, 3) := by decide +kernel
theorem dX9_count_58 : decode cX9_count 58 = .ok (.ireturn, 1) := by decide +kernel
theorem dX9_count_59 : decode cX9_count 59 = .ok (.aload_n 0, 1) := by decide +kernel
theorem dX9_count_60 : decode cX9_count 60 = .ok (.iconst 3, 1) := by decide +kernel
theorem dX9_count_61 : decode cX9_count 61 = .ok (.iconst 1, 1) := by decide +kernel
theorem dX9_count_62 : decode cX9_count 62 = .ok (.invokevirtual 108, 3) := by decide +kernel
theorem dX9_count_65 : decode cX9_count 65 = .ok (.ireturn, 1) := by decide +kernel
theorem dX9_count_66 : decode cX9_count 66 = .ok (.aload_n 0, 1) := by decide +kernel
theorem dX9_count_67 : decode cX9_count 67 = .ok (.iconst 3, 1) := by decide +kernel
theorem dX9_count_68 : decode cX9_count 68 = .ok (.iconst 2, 1) := by decide +kernel
theorem dX9_count_69 : decode cX9_count 69 = .ok (.invokevirtual 108, 3) := by decide +kernel
theorem dX9_count_72 : decode cX9_count 72 = .ok (.ireturn, 1) := by decide +kernel
theorem dX9_count_73 : decode cX9_count 73 = .ok (.aload_n 0, 1) := by decide +kernel
theorem dX9_count_74 : decode cX9_count 74 = .ok (.iconst 1, 1) := by decide +kernel
theorem dX9_count_75 : decode cX9_count 75 = .ok (.iconst 1, 1) := by decide +kernel
theorem dX9_count_76 : decode cX9_count 76 = .ok (.invokevirtual 108, 3) := by decide +kernel
theorem dX9_count_79 : decode cX9_count 79 = .ok (.ireturn, 1) := by decide +kernel
theorem dX9_count_80 : decode cX9_count 80 = .ok (.aload_n 0, 1) := by decide +kernel
theorem dX9_count_81 : decode cX9_count 81 = .ok (.getfield 7, 3) := by decide +kernel
theorem dX9_count_84 : decode cX9_count 84 = .ok (.iconst 0, 1) := by decide +kernel
theorem dX9_count_85 : decode cX9_count 85 = .ok (.iaload, 1) := by decide +kernel
theorem dX9_count_86 : decode cX9_count 86 = .ok (.ireturn, 1) := by decide +kernel
theorem dX9_count_87 : decode cX9_count 87 = .ok (.aload_n 0, 1) := by decide +kernel
theorem dX9_count_88 : decode cX9_count 88 = .ok (.getfield 7, 3) := by decide +kernel
theorem dX9_count_91 : decode cX9_count 91 = .ok (.iconst 1, 1) := by decide +kernel
theorem dX9_count_92 : decode cX9_count 92 = .ok (.iaload, 1) := by decide +kernel
theorem dX9_count_93 : decode cX9_count 93 = .ok (.ireturn, 1) := by decide +kernel
theorem dX9_count_94 : decode cX9_count 94 = .ok (.aload_n 0, 1) := by decide +kernel
theorem dX9_count_95 : decode cX9_count 95 = .ok (.getfield 7, 3) := by decide +kernel
theorem dX9_count_98 : decode cX9_count 98 = .ok (.iconst 2, 1) := by decide +kernel
theorem dX9_count_99 : decode cX9_count 99 = .ok (.iaload, 1) := by decide +kernel
theorem dX9_count_100 : decode cX9_count 100 = .ok (.ireturn, 1) := by decide +kernel
theorem dX9_count_101 : decode cX9_count 101 = .ok (.aload_n 0, 1) := by decide +kernel
theorem dX9_count_102 : decode cX9_count 102 = .ok (.invokevirtual 166, 3) := by decide +kernel
theorem dX9_count_105 : decode cX9_count 105 = .ok (.ireturn, 1) := by decide +kernel
theorem dX9_count_106 : decode cX9_count 106 = .ok (.aload_n 0, 1) := by decide +kernel
theorem dX9_count_107 : decode cX9_count 107 = .ok (.getfield 169, 3) := by decide +kernel
theorem dX9_count_110 : decode cX9_count 110 = .ok (.ireturn, 1) := by decide +kernel
theorem dX9_count_111 : decode cX9_count 111 = .ok (.iconst (-1), 1) := by decide +kernel
theorem dX9_count_112 : decode cX9_count 112 = .ok (.ireturn, 1) := by decide +kernel
theorem dX9_held_0 : decode cX9_held 0 = .ok (.iconst 0, 1) := by decide +kernel
theorem dX9_held_1 : decode cX9_held 1 = .ok (.istore_n 2, 1) := by decide +kernel
theorem dX9_held_2 : decode cX9_held 2 = .ok (.iconst 0, 1) := by decide +kernel
theorem dX9_held_3 : decode cX9_held 3 = .ok (.istore_n 3, 1) := by decide +kernel
theorem dX9_held_4 : decode cX9_held 4 = .ok (.iload_n 3, 1) := by decide +kernel
theorem dX9_held_5 : decode cX9_held 5 = .ok (.aload_n 0, 1) := by decide +kernel
theorem dX9_held_6 : decode cX9_held 6 = .ok (.getfield 7, 3) := by decide +kernel
theorem dX9_held_9 : decode cX9_held 9 = .ok (.iconst 0, 1) := by decide +kernel
theorem dX9_held_10 : decode cX9_held 10 = .ok (.iaload, 1) := by decide +kernel
theorem dX9_held_11 : decode cX9_held 11 = .ok (.if_icmp .ge 26, 3) := by decide +kernel
theorem dX9_held_14 : decode cX9_held 14 = .ok (.iload_n 2, 1) := by decide +kernel
theorem dX9_held_15 : decode cX9_held 15 = .ok (.aload_n 0, 1) := by decide +kernel
theorem dX9_held_16 : decode cX9_held 16 = .ok (.iload_n 1, 1) := by decide +kernel
theorem dX9_held_17 : decode cX9_held 17 = .ok (.iload_n 3, 1) := by decide +kernel
theorem dX9_held_18 : decode cX9_held 18 = .ok (.invokevirtual 117, 3) := by decide +kernel
theorem dX9_held_21 : decode cX9_held 21 = .ok (.ifCond .eq 7, 3) := by decide +kernel
theorem dX9_held_24 : decode cX9_held 24 = .ok (.iconst 1, 1) := by decide +kernel
theorem dX9_held_25 : decode cX9_held 25 = .ok (.goto 4, 3) := by decide +kernel
theorem dX9_held_28 : decode cX9_held 28 = .ok (.iconst 0, 1) := by decide +kernel
theorem dX9_held_29 : decode cX9_held 29 = .ok (.iadd, 1) := by decide +kernel
theorem dX9_held_30 : decode cX9_held 30 = .ok (.istore_n 2, 1) := by decide +kernel
theorem dX9_held_31 : decode cX9_held 31 = .ok (.iinc 3 1, 3) := by decide +kernel
theorem dX9_held_34 : decode cX9_held 34 = .ok (.goto (-30), 3) := by decide +kernel
theorem dX9_held_37 : decode cX9_held 37 = .ok (.iload_n 2, 1) := by decide +kernel
theorem dX9_held_38 : decode cX9_held 38 = .ok (.ireturn, 1) := by decide +kernel
theorem dX9_member_0 : decode cX9_member 0 = .ok (.iload_n 1, 1) := by decide +kernel
theorem dX9_member_1 : decode cX9_member 1 = .ok (.invokestatic 98, 3) := by decide +kernel
theorem dX9_member_4 : decode cX9_member 4 = .ok (.ifCond .ne 5, 3) := by decide +kernel
theorem dX9_member_7 : decode cX9_member 7 = .ok (.iconst (-1), 1) := by decide +kernel
theorem dX9_member_8 : decode cX9_member 8 = .ok (.ireturn, 1) := by decide +kernel
theorem dX9_member_9 : decode cX9_member 9 = .ok (.aload_n 0, 1) := by decide +kernel
theorem dX9_member_10 : decode cX9_member 10 = .ok (.iconst 1, 1) := by decide +kernel
theorem dX9_member_11 : decode cX9_member 11 = .ok (.invokevirtual 140, 3) := by decide +kernel
theorem dX9_member_14 : decode cX9_member 14 = .ok (.istore_n 3, 1) := by decide +kernel
theorem dX9_member_15 : decode cX9_member 15 = .ok (.iload_n 2, 1) := by decide +kernel
theorem dX9_member_16 : decode cX9_member 16 = .ok (.tableswitch 131 0 5 #[40, 60, 66, 90, 97, 124], 40) := by decide +kernel
theorem dX9_member_56 : decode cX9_member 56 = .ok (.aload_n 0, 1) := by decide +kernel
theorem dX9_member_57 : decode cX9_member 57 = .ok (.iload_n 1, 1) := by decide +kernel
theorem dX9_member_58 : decode cX9_member 58 = .ok (.invokevirtual 68, 3) := by decide +kernel
theorem dX9_member_61 : decode cX9_member 61 = .ok (.ifCond .eq 12, 3) := by decide +kernel
theorem dX9_member_64 : decode cX9_member 64 = .ok (.aload_n 0, 1) := by decide +kernel
theorem dX9_member_65 : decode cX9_member 65 = .ok (.iload_n 1, 1) := by decide +kernel
theorem dX9_member_66 : decode cX9_member 66 = .ok (.iconst 0, 1) := by decide +kernel
theorem dX9_member_67 : decode cX9_member 67 = .ok (.invokevirtual 64, 3) := by decide +kernel
theorem dX9_member_70 : decode cX9_member 70 = .ok (.goto 5, 3) := by decide +kernel
theorem dX9_member_73 : decode cX9_member 73 = .ok (.bipush (-4), 2) := by decide +kernel
theorem dX9_member_75 : decode cX9_member 75 = .ok (.ireturn, 1) := by decide +kernel
theorem dX9_member_76 : decode cX9_member 76 = .ok (.aload_n 0, 1) := by decide +kernel
theorem dX9_member_77 : decode cX9_member 77 = .ok (.iload_n 1, 1) := by decide +kernel
theorem dX9_member_78 : decode cX9_member 78 = .ok (.invokevirtual 172, 3) := by decide +kernel
theorem dX9_member_81 : decode cX9_member 81 = .ok (.ireturn, 1) := by decide +kernel
theorem dX9_member_82 : decode cX9_member 82 = .ok (.iload_n 3, 1) := by decide +kernel
theorem dX9_member_83 : decode cX9_member 83 = .ok (.ifCond .ge 8, 3) := by decide +kernel
theorem dX9_member_86 : decode cX9_member 86 = .ok (.bipush (-4), 2) := by decide +kernel
theorem dX9_member_88 : decode cX9_member 88 = .ok (.goto 17, 3) := by decide +kernel
theorem dX9_member_91 : decode cX9_member 91 = .ok (.aload_n 0, 1) := by decide +kernel
theorem dX9_member_92 : decode cX9_member 92 = .ok (.iload_n 1, 1) := by decide +kernel
theorem dX9_member_93 : decode cX9_member 93 = .ok (.iload_n 3, 1) := by decide +kernel
theorem dX9_member_94 : decode cX9_member 94 = .ok (.invokevirtual 117, 3) := by decide +kernel
theorem dX9_member_97 : decode cX9_member 97 = .ok (.ifCond .eq 7, 3) := by decide +kernel
theorem dX9_member_100 : decode cX9_member 100 = .ok (.iconst 1, 1) := by decide +kernel
theorem dX9_member_101 : decode cX9_member 101 = .ok (.goto 4, 3) := by decide +kernel
theorem dX9_member_104 : decode cX9_member 104 = .ok (.iconst 0, 1) := by decide +kernel
theorem dX9_member_105 : decode cX9_member 105 = .ok (.ireturn, 1) := by decide +kernel
theorem dX9_member_106 : decode cX9_member 106 = .ok (.aload_n 0, 1) := by decide +kernel
theorem dX9_member_107 : decode cX9_member 107 = .ok (.iload_n 1, 1) := by decide +kernel
theorem dX9_member_108 : decode cX9_member 108 = .ok (.iconst 1, 1) := by decide +kernel
theorem dX9_member_109 : decode cX9_member 109 = .ok (.invokevirtual 64, 3) := by decide +kernel
theorem dX9_member_112 : decode cX9_member 112 = .ok (.ireturn, 1) := by decide +kernel
theorem dX9_member_113 : decode cX9_member 113 = .ok (.aload_n 0, 1) := by decide +kernel
theorem dX9_member_114 : decode cX9_member 114 = .ok (.iload_n 1, 1) := by decide +kernel
theorem dX9_member_115 : decode cX9_member 115 = .ok (.invokevirtual 68, 3) := by decide +kernel
theorem dX9_member_118 : decode cX9_member 118 = .ok (.ifCond .eq 19, 3) := by decide +kernel
theorem dX9_member_121 : decode cX9_member 121 = .ok (.aload_n 0, 1) := by decide +kernel
theorem dX9_member_122 : decode cX9_member 122 = .ok (.getfield 7, 3) := by decide +kernel
theorem dX9_member_125 : decode cX9_member 125 = .ok (.iconst 1, 1) := by decide +kernel
theorem dX9_member_126 : decode cX9_member 126 = .ok (.iaload, 1) := by decide +kernel
theorem dX9_member_127 : decode cX9_member 127 = .ok (.aload_n 0, 1) := by decide +kernel
theorem dX9_member_128 : decode cX9_member 128 = .ok (.iload_n 1, 1) := by decide +kernel
theorem dX9_member_129 : decode cX9_member 129 = .ok (.iconst 2, 1) := by decide +kernel
theorem dX9_member_130 : decode cX9_member 130 = .ok (.invokevirtual 64, 3) := by decide +kernel
theorem dX9_member_133 : decode cX9_member 133 = .ok (.isub, 1) := by decide +kernel
theorem dX9_member_134 : decode cX9_member 134 = .ok (.goto 5, 3) := by decide +kernel
theorem dX9_member_137 : decode cX9_member 137 = .ok (.bipush (-4), 2) := by decide +kernel
theorem dX9_member_139 : decode cX9_member 139 = .ok (.ireturn, 1) := by decide +kernel
theorem dX9_member_140 : decode cX9_member 140 = .ok (.aload_n 0, 1) := by decide +kernel
theorem dX9_member_141 : decode cX9_member 141 = .ok (.iload_n 1, 1) := by decide +kernel
theorem dX9_member_142 : decode cX9_member 142 = .ok (.iconst 3, 1) := by decide +kernel
theorem dX9_member_143 : decode cX9_member 143 = .ok (.invokevirtual 64, 3) := by decide +kernel
theorem dX9_member_146 : decode cX9_member 146 = .ok (.ireturn, 1) := by decide +kernel
theorem dX9_member_147 : decode cX9_member 147 = .ok (.iconst (-1), 1) := by decide +kernel
theorem dX9_member_148 : decode cX9_member 148 = .ok (.ireturn, 1) := by decide +kernel
theorem dX9_node_0 : decode cX9_node 0 = .ok (.iload_n 1, 1) := by decide +kernel
theorem dX9_node_1 : decode cX9_node 1 = .ok (.i2l, 1) := by decide +kernel
theorem dX9_node_2 : decode cX9_node 2 = .ok (.lconst 1, 1) := by decide +kernel
theorem dX9_node_3 : decode cX9_node 3 = .ok (.ldc2_w 175, 3) := by decide +kernel
theorem dX9_node_6 : decode cX9_node 6 = .ok (.invokestatic 60, 3) := by decide +kernel
theorem dX9_node_9 : decode cX9_node 9 = .ok (.ifCond .ne 5, 3) := by decide +kernel
theorem dX9_node_12 : decode cX9_node 12 = .ok (.iconst (-1), 1) := by decide +kernel
theorem dX9_node_13 : decode cX9_node 13 = .ok (.ireturn, 1) := by decide +kernel
theorem dX9_node_14 : decode cX9_node 14 = .ok (.aload_n 0, 1) := by decide +kernel
theorem dX9_node_15 : decode cX9_node 15 = .ok (.iload_n 1, 1) := by decide +kernel
theorem dX9_node_16 : decode cX9_node 16 = .ok (.invokevirtual 140, 3) := by decide +kernel
theorem dX9_node_19 : decode cX9_node 19 = .ok (.istore_n 3, 1) := by decide +kernel
theorem dX9_node_20 : decode cX9_node 20 = .ok (.iload_n 2, 1) := by decide +kernel
theorem dX9_node_21 : decode cX9_node 21 = .ok (.tableswitch 55 0 2 #[27, 29, 35], 27) := by decide +kernel
theorem dX9_node_48 : decode cX9_node 48 = .ok (.iload_n 3, 1) := by decide +kernel
theorem dX9_node_49 : decode cX9_node 49 = .ok (.ireturn, 1) := by decide +kernel
theorem dX9_node_50 : decode cX9_node 50 = .ok (.aload_n 0, 1) := by decide +kernel
theorem dX9_node_51 : decode cX9_node 51 = .ok (.iload_n 1, 1) := by decide +kernel
theorem dX9_node_52 : decode cX9_node 52 = .ok (.invokevirtual 84, 3) := by decide +kernel
theorem dX9_node_55 : decode cX9_node 55 = .ok (.ireturn, 1) := by decide +kernel
theorem dX9_node_56 : decode cX9_node 56 = .ok (.iload_n 3, 1) := by decide +kernel
theorem dX9_node_57 : decode cX9_node 57 = .ok (.ifCond .ge 8, 3) := by decide +kernel
theorem dX9_node_60 : decode cX9_node 60 = .ok (.bipush (-4), 2) := by decide +kernel
theorem dX9_node_62 : decode cX9_node 62 = .ok (.goto 13, 3) := by decide +kernel
theorem dX9_node_65 : decode cX9_node 65 = .ok (.aload_n 0, 1) := by decide +kernel
theorem dX9_node_66 : decode cX9_node 66 = .ok (.getfield 7, 3) := by decide +kernel
theorem dX9_node_69 : decode cX9_node 69 = .ok (.sipush 330, 3) := by decide +kernel
theorem dX9_node_72 : decode cX9_node 72 = .ok (.iload_n 3, 1) := by decide +kernel
theorem dX9_node_73 : decode cX9_node 73 = .ok (.iadd, 1) := by decide +kernel
theorem dX9_node_74 : decode cX9_node 74 = .ok (.iaload, 1) := by decide +kernel
theorem dX9_node_75 : decode cX9_node 75 = .ok (.ireturn, 1) := by decide +kernel
theorem dX9_node_76 : decode cX9_node 76 = .ok (.iconst (-1), 1) := by decide +kernel
theorem dX9_node_77 : decode cX9_node 77 = .ok (.ireturn, 1) := by decide +kernel
theorem dX9_isKey_0 : decode cX9_isKey 0 = .ok (.iload_n 1, 1) := by decide +kernel
theorem dX9_isKey_1 : decode cX9_isKey 1 = .ok (.i2l, 1) := by decide +kernel
theorem dX9_isKey_2 : decode cX9_isKey 2 = .ok (.lconst 0, 1) := by decide +kernel
theorem dX9_isKey_3 : decode cX9_isKey 3 = .ok (.aload_n 0, 1) := by decide +kernel
theorem dX9_isKey_4 : decode cX9_isKey 4 = .ok (.getfield 7, 3) := by decide +kernel
theorem dX9_isKey_7 : decode cX9_isKey 7 = .ok (.iconst 0, 1) := by decide +kernel
theorem dX9_isKey_8 : decode cX9_isKey 8 = .ok (.iaload, 1) := by decide +kernel
theorem dX9_isKey_9 : decode cX9_isKey 9 = .ok (.iconst 1, 1) := by decide +kernel
theorem dX9_isKey_10 : decode cX9_isKey 10 = .ok (.isub, 1) := by decide +kernel
theorem dX9_isKey_11 : decode cX9_isKey 11 = .ok (.i2l, 1) := by decide +kernel
theorem dX9_isKey_12 : decode cX9_isKey 12 = .ok (.invokestatic 60, 3) := by decide +kernel
theorem dX9_isKey_15 : decode cX9_isKey 15 = .ok (.ireturn, 1) := by decide +kernel
theorem dX9_isLetter_0 : decode cX9_isLetter 0 = .ok (.lload_n 1, 1) := by decide +kernel
theorem dX9_isLetter_1 : decode cX9_isLetter 1 = .ok (.lconst 0, 1) := by decide +kernel
theorem dX9_isLetter_2 : decode cX9_isLetter 2 = .ok (.aload_n 0, 1) := by decide +kernel
theorem dX9_isLetter_3 : decode cX9_isLetter 3 = .ok (.getfield 7, 3) := by decide +kernel
theorem dX9_isLetter_6 : decode cX9_isLetter 6 = .ok (.iconst 1, 1) := by decide +kernel
theorem dX9_isLetter_7 : decode cX9_isLetter 7 = .ok (.iaload, 1) := by decide +kernel
theorem dX9_isLetter_8 : decode cX9_isLetter 8 = .ok (.iconst 1, 1) := by decide +kernel
theorem dX9_isLetter_9 : decode cX9_isLetter 9 = .ok (.isub, 1) := by decide +kernel
theorem dX9_isLetter_10 : decode cX9_isLetter 10 = .ok (.i2l, 1) := by decide +kernel
theorem dX9_isLetter_11 : decode cX9_isLetter 11 = .ok (.invokestatic 60, 3) := by decide +kernel
theorem dX9_isLetter_14 : decode cX9_isLetter 14 = .ok (.ireturn, 1) := by decide +kernel
theorem dX9_key_0 : decode cX9_key 0 = .ok (.aload_n 0, 1) := by decide +kernel
theorem dX9_key_1 : decode cX9_key 1 = .ok (.iload_n 1, 1) := by decide +kernel
theorem dX9_key_2 : decode cX9_key 2 = .ok (.invokevirtual 177, 3) := by decide +kernel
theorem dX9_key_5 : decode cX9_key 5 = .ok (.ifCond .ne 5, 3) := by decide +kernel
theorem dX9_key_8 : decode cX9_key 8 = .ok (.iconst (-1), 1) := by decide +kernel
theorem dX9_key_9 : decode cX9_key 9 = .ok (.ireturn, 1) := by decide +kernel
theorem dX9_key_10 : decode cX9_key 10 = .ok (.iload_n 2, 1) := by decide +kernel
theorem dX9_key_11 : decode cX9_key 11 = .ok (.tableswitch 71 0 3 #[29, 35, 41, 60], 29) := by decide +kernel
theorem dX9_key_40 : decode cX9_key 40 = .ok (.aload_n 0, 1) := by decide +kernel
theorem dX9_key_41 : decode cX9_key 41 = .ok (.iload_n 1, 1) := by decide +kernel
theorem dX9_key_42 : decode cX9_key 42 = .ok (.invokevirtual 80, 3) := by decide +kernel
theorem dX9_key_45 : decode cX9_key 45 = .ok (.ireturn, 1) := by decide +kernel
theorem dX9_key_46 : decode cX9_key 46 = .ok (.aload_n 0, 1) := by decide +kernel
theorem dX9_key_47 : decode cX9_key 47 = .ok (.iload_n 1, 1) := by decide +kernel
theorem dX9_key_48 : decode cX9_key 48 = .ok (.invokevirtual 180, 3) := by decide +kernel
theorem dX9_key_51 : decode cX9_key 51 = .ok (.ireturn, 1) := by decide +kernel
theorem dX9_key_52 : decode cX9_key 52 = .ok (.aload_n 0, 1) := by decide +kernel
theorem dX9_key_53 : decode cX9_key 53 = .ok (.aload_n 0, 1) := by decide +kernel
theorem dX9_key_54 : decode cX9_key 54 = .ok (.iload_n 1, 1) := by decide +kernel
theorem dX9_key_55 : decode cX9_key 55 = .ok (.invokevirtual 80, 3) := by decide +kernel
theorem dX9_key_58 : decode cX9_key 58 = .ok (.invokevirtual 140, 3) := by decide +kernel
theorem dX9_key_61 : decode cX9_key 61 = .ok (.iload_n 1, 1) := by decide +kernel
theorem dX9_key_62 : decode cX9_key 62 = .ok (.if_icmp .ne 7, 3) := by decide +kernel
theorem dX9_key_65 : decode cX9_key 65 = .ok (.iconst 1, 1) := by decide +kernel
theorem dX9_key_66 : decode cX9_key 66 = .ok (.goto 4, 3) := by decide +kernel
theorem dX9_key_69 : decode cX9_key 69 = .ok (.iconst 0, 1) := by decide +kernel
theorem dX9_key_70 : decode cX9_key 70 = .ok (.ireturn, 1) := by decide +kernel
theorem dX9_key_71 : decode cX9_key 71 = .ok (.aload_n 0, 1) := by decide +kernel
theorem dX9_key_72 : decode cX9_key 72 = .ok (.getfield 7, 3) := by decide +kernel
theorem dX9_key_75 : decode cX9_key 75 = .ok (.sipush 330, 3) := by decide +kernel
theorem dX9_key_78 : decode cX9_key 78 = .ok (.iload_n 1, 1) := by decide +kernel
theorem dX9_key_79 : decode cX9_key 79 = .ok (.iadd, 1) := by decide +kernel
theorem dX9_key_80 : decode cX9_key 80 = .ok (.iaload, 1) := by decide +kernel
theorem dX9_key_81 : decode cX9_key 81 = .ok (.ireturn, 1) := by decide +kernel
theorem dX9_key_82 : decode cX9_key 82 = .ok (.iconst (-1), 1) := by decide +kernel
theorem dX9_key_83 : decode cX9_key 83 = .ok (.ireturn, 1) := by decide +kernel
theorem dX9_letter_0 : decode cX9_letter 0 = .ok (.aload_n 0, 1) := by decide +kernel
theorem dX9_letter_1 : decode cX9_letter 1 = .ok (.iload_n 1, 1) := by decide +kernel
theorem dX9_letter_2 : decode cX9_letter 2 = .ok (.i2l, 1) := by decide +kernel
theorem dX9_letter_3 : decode cX9_letter 3 = .ok (.invokevirtual 183, 3) := by decide +kernel
theorem dX9_letter_6 : decode cX9_letter 6 = .ok (.ifCond .ne 5, 3) := by decide +kernel
theorem dX9_letter_9 : decode cX9_letter 9 = .ok (.iconst (-1), 1) := by decide +kernel
theorem dX9_letter_10 : decode cX9_letter 10 = .ok (.ireturn, 1) := by decide +kernel
theorem dX9_letter_11 : decode cX9_letter 11 = .ok (.iload_n 2, 1) := by decide +kernel
theorem dX9_letter_12 : decode cX9_letter 12 = .ok (.tableswitch 59 0 2 #[28, 34, 40], 28) := by decide +kernel
theorem dX9_letter_40 : decode cX9_letter 40 = .ok (.aload_n 0, 1) := by decide +kernel
theorem dX9_letter_41 : decode cX9_letter 41 = .ok (.iload_n 1, 1) := by decide +kernel
theorem dX9_letter_42 : decode cX9_letter 42 = .ok (.invokevirtual 120, 3) := by decide +kernel
theorem dX9_letter_45 : decode cX9_letter 45 = .ok (.ireturn, 1) := by decide +kernel
theorem dX9_letter_46 : decode cX9_letter 46 = .ok (.aload_n 0, 1) := by decide +kernel
theorem dX9_letter_47 : decode cX9_letter 47 = .ok (.iload_n 1, 1) := by decide +kernel
theorem dX9_letter_48 : decode cX9_letter 48 = .ok (.invokevirtual 114, 3) := by decide +kernel
theorem dX9_letter_51 : decode cX9_letter 51 = .ok (.ireturn, 1) := by decide +kernel
theorem dX9_letter_52 : decode cX9_letter 52 = .ok (.aload_n 0, 1) := by decide +kernel
theorem dX9_letter_53 : decode cX9_letter 53 = .ok (.iload_n 1, 1) := by decide +kernel
