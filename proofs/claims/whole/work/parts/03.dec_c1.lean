theorem dX5_runs_46 : decode cX5_runs 46 = .ok (.aload_n 0, 1) := by decide +kernel
theorem dX5_runs_47 : decode cX5_runs 47 = .ok (.sipush 220, 3) := by decide +kernel
theorem dX5_runs_50 : decode cX5_runs 50 = .ok (.invokevirtual 179, 3) := by decide +kernel
theorem dX5_runs_53 : decode cX5_runs 53 = .ok (.goto 19, 3) := by decide +kernel
theorem dX5_runs_56 : decode cX5_runs 56 = .ok (.iload_n 2, 1) := by decide +kernel
theorem dX5_runs_57 : decode cX5_runs 57 = .ok (.iconst 2, 1) := by decide +kernel
theorem dX5_runs_58 : decode cX5_runs 58 = .ok (.if_icmp .ne 10, 3) := by decide +kernel
theorem dX5_runs_61 : decode cX5_runs 61 = .ok (.aload_n 0, 1) := by decide +kernel
theorem dX5_runs_62 : decode cX5_runs 62 = .ok (.getfield 220, 3) := by decide +kernel
theorem dX5_runs_65 : decode cX5_runs 65 = .ok (.goto 7, 3) := by decide +kernel
theorem dX5_runs_68 : decode cX5_runs 68 = .ok (.aload_n 0, 1) := by decide +kernel
theorem dX5_runs_69 : decode cX5_runs 69 = .ok (.getfield 223, 3) := by decide +kernel
theorem dX5_runs_72 : decode cX5_runs 72 = .ok (.ireturn, 1) := by decide +kernel
theorem dX5_ahead_0 : decode cX5_ahead 0 = .ok (.aload_n 0, 1) := by decide +kernel
theorem dX5_ahead_1 : decode cX5_ahead 1 = .ok (.iload_n 1, 1) := by decide +kernel
theorem dX5_ahead_2 : decode cX5_ahead 2 = .ok (.invokevirtual 182, 3) := by decide +kernel
theorem dX5_ahead_5 : decode cX5_ahead 5 = .ok (.ifCond .eq 25, 3) := by decide +kernel
theorem dX5_ahead_8 : decode cX5_ahead 8 = .ok (.iload_n 2, 1) := by decide +kernel
theorem dX5_ahead_9 : decode cX5_ahead 9 = .ok (.i2l, 1) := by decide +kernel
theorem dX5_ahead_10 : decode cX5_ahead 10 = .ok (.lconst 0, 1) := by decide +kernel
theorem dX5_ahead_11 : decode cX5_ahead 11 = .ok (.ldc2_w 226, 3) := by decide +kernel
theorem dX5_ahead_14 : decode cX5_ahead 14 = .ok (.invokestatic 46, 3) := by decide +kernel
theorem dX5_ahead_17 : decode cX5_ahead 17 = .ok (.ifCond .eq 13, 3) := by decide +kernel
theorem dX5_ahead_20 : decode cX5_ahead 20 = .ok (.iload_n 3, 1) := by decide +kernel
theorem dX5_ahead_21 : decode cX5_ahead 21 = .ok (.i2l, 1) := by decide +kernel
theorem dX5_ahead_22 : decode cX5_ahead 22 = .ok (.lconst 0, 1) := by decide +kernel
theorem dX5_ahead_23 : decode cX5_ahead 23 = .ok (.lconst 1, 1) := by decide +kernel
theorem dX5_ahead_24 : decode cX5_ahead 24 = .ok (.invokestatic 46, 3) := by decide +kernel
theorem dX5_ahead_27 : decode cX5_ahead 27 = .ok (.ifCond .ne 5, 3) := by decide +kernel
theorem dX5_ahead_30 : decode cX5_ahead 30 = .ok (.iconst (-1), 1) := by decide +kernel
theorem dX5_ahead_31 : decode cX5_ahead 31 = .ok (.ireturn, 1) := by decide +kernel
theorem dX5_ahead_32 : decode cX5_ahead 32 = .ok (.aload_n 0, 1) := by decide +kernel
theorem dX5_ahead_33 : decode cX5_ahead 33 = .ok (.iconst 0, 1) := by decide +kernel
theorem dX5_ahead_34 : decode cX5_ahead 34 = .ok (.iload_n 2, 1) := by decide +kernel
theorem dX5_ahead_35 : decode cX5_ahead 35 = .ok (.invokevirtual 228, 3) := by decide +kernel
theorem dX5_ahead_38 : decode cX5_ahead 38 = .ok (.pop, 1) := by decide +kernel
theorem dX5_ahead_39 : decode cX5_ahead 39 = .ok (.iload_n 3, 1) := by decide +kernel
theorem dX5_ahead_40 : decode cX5_ahead 40 = .ok (.ifCond .ne 16, 3) := by decide +kernel
theorem dX5_ahead_43 : decode cX5_ahead 43 = .ok (.aload_n 0, 1) := by decide +kernel
theorem dX5_ahead_44 : decode cX5_ahead 44 = .ok (.getfield 7, 3) := by decide +kernel
theorem dX5_ahead_47 : decode cX5_ahead 47 = .ok (.sipush 225, 3) := by decide +kernel
theorem dX5_ahead_50 : decode cX5_ahead 50 = .ok (.iload_n 1, 1) := by decide +kernel
theorem dX5_ahead_51 : decode cX5_ahead 51 = .ok (.iadd, 1) := by decide +kernel
theorem dX5_ahead_52 : decode cX5_ahead 52 = .ok (.iaload, 1) := by decide +kernel
theorem dX5_ahead_53 : decode cX5_ahead 53 = .ok (.goto 11, 3) := by decide +kernel
theorem dX5_ahead_56 : decode cX5_ahead 56 = .ok (.aload_n 0, 1) := by decide +kernel
theorem dX5_ahead_57 : decode cX5_ahead 57 = .ok (.sipush 220, 3) := by decide +kernel
theorem dX5_ahead_60 : decode cX5_ahead 60 = .ok (.iload_n 1, 1) := by decide +kernel
theorem dX5_ahead_61 : decode cX5_ahead 61 = .ok (.invokevirtual 160, 3) := by decide +kernel
theorem dX5_ahead_64 : decode cX5_ahead 64 = .ok (.ireturn, 1) := by decide +kernel
theorem dX5_believed_0 : decode cX5_believed 0 = .ok (.aload_n 0, 1) := by decide +kernel
theorem dX5_believed_1 : decode cX5_believed 1 = .ok (.iload_n 1, 1) := by decide +kernel
theorem dX5_believed_2 : decode cX5_believed 2 = .ok (.invokevirtual 182, 3) := by decide +kernel
theorem dX5_believed_5 : decode cX5_believed 5 = .ok (.ifCond .eq 20, 3) := by decide +kernel
theorem dX5_believed_8 : decode cX5_believed 8 = .ok (.iload_n 2, 1) := by decide +kernel
theorem dX5_believed_9 : decode cX5_believed 9 = .ok (.invokestatic 197, 3) := by decide +kernel
theorem dX5_believed_12 : decode cX5_believed 12 = .ok (.ifCond .eq 13, 3) := by decide +kernel
theorem dX5_believed_15 : decode cX5_believed 15 = .ok (.aload_n 0, 1) := by decide +kernel
theorem dX5_believed_16 : decode cX5_believed 16 = .ok (.iconst 0, 1) := by decide +kernel
theorem dX5_believed_17 : decode cX5_believed 17 = .ok (.iload_n 1, 1) := by decide +kernel
theorem dX5_believed_18 : decode cX5_believed 18 = .ok (.iload_n 2, 1) := by decide +kernel
theorem dX5_believed_19 : decode cX5_believed 19 = .ok (.invokevirtual 156, 3) := by decide +kernel
theorem dX5_believed_22 : decode cX5_believed 22 = .ok (.goto 4, 3) := by decide +kernel
theorem dX5_believed_25 : decode cX5_believed 25 = .ok (.iconst (-1), 1) := by decide +kernel
theorem dX5_believed_26 : decode cX5_believed 26 = .ok (.ireturn, 1) := by decide +kernel
theorem dX5_agrees_0 : decode cX5_agrees 0 = .ok (.aload_n 0, 1) := by decide +kernel
theorem dX5_agrees_1 : decode cX5_agrees 1 = .ok (.iload_n 1, 1) := by decide +kernel
theorem dX5_agrees_2 : decode cX5_agrees 2 = .ok (.invokevirtual 182, 3) := by decide +kernel
theorem dX5_agrees_5 : decode cX5_agrees 5 = .ok (.ifCond .ne 5, 3) := by decide +kernel
theorem dX5_agrees_8 : decode cX5_agrees 8 = .ok (.iconst (-1), 1) := by decide +kernel
theorem dX5_agrees_9 : decode cX5_agrees 9 = .ok (.ireturn, 1) := by decide +kernel
theorem dX5_agrees_10 : decode cX5_agrees 10 = .ok (.aload_n 0, 1) := by decide +kernel
theorem dX5_agrees_11 : decode cX5_agrees 11 = .ok (.iconst 0, 1) := by decide +kernel
theorem dX5_agrees_12 : decode cX5_agrees 12 = .ok (.sipush 220, 3) := by decide +kernel
theorem dX5_agrees_15 : decode cX5_agrees 15 = .ok (.invokevirtual 216, 3) := by decide +kernel
theorem dX5_agrees_18 : decode cX5_agrees 18 = .ok (.iconst 0, 1) := by decide +kernel
theorem dX5_agrees_19 : decode cX5_agrees 19 = .ok (.istore_n 2, 1) := by decide +kernel
theorem dX5_agrees_20 : decode cX5_agrees 20 = .ok (.iload_n 2, 1) := by decide +kernel
theorem dX5_agrees_21 : decode cX5_agrees 21 = .ok (.bipush 60, 2) := by decide +kernel
theorem dX5_agrees_23 : decode cX5_agrees 23 = .ok (.if_icmp .gt 29, 3) := by decide +kernel
theorem dX5_agrees_26 : decode cX5_agrees 26 = .ok (.aload_n 0, 1) := by decide +kernel
theorem dX5_agrees_27 : decode cX5_agrees 27 = .ok (.sipush 220, 3) := by decide +kernel
theorem dX5_agrees_30 : decode cX5_agrees 30 = .ok (.iload_n 1, 1) := by decide +kernel
theorem dX5_agrees_31 : decode cX5_agrees 31 = .ok (.invokevirtual 166, 3) := by decide +kernel
theorem dX5_agrees_34 : decode cX5_agrees 34 = .ok (.ifCond .eq 5, 3) := by decide +kernel
theorem dX5_agrees_37 : decode cX5_agrees 37 = .ok (.iload_n 2, 1) := by decide +kernel
theorem dX5_agrees_38 : decode cX5_agrees 38 = .ok (.ireturn, 1) := by decide +kernel
theorem dX5_agrees_39 : decode cX5_agrees 39 = .ok (.aload_n 0, 1) := by decide +kernel
theorem dX5_agrees_40 : decode cX5_agrees 40 = .ok (.sipush 220, 3) := by decide +kernel
theorem dX5_agrees_43 : decode cX5_agrees 43 = .ok (.invokevirtual 213, 3) := by decide +kernel
theorem dX5_agrees_46 : decode cX5_agrees 46 = .ok (.iinc 2 1, 3) := by decide +kernel
theorem dX5_agrees_49 : decode cX5_agrees 49 = .ok (.goto (-29), 3) := by decide +kernel
theorem dX5_agrees_52 : decode cX5_agrees 52 = .ok (.bipush (-4), 2) := by decide +kernel
theorem dX5_agrees_54 : decode cX5_agrees 54 = .ok (.ireturn, 1) := by decide +kernel
theorem dX5_pose_0 : decode cX5_pose 0 = .ok (.aload_n 0, 1) := by decide +kernel
theorem dX5_pose_1 : decode cX5_pose 1 = .ok (.iload_n 1, 1) := by decide +kernel
theorem dX5_pose_2 : decode cX5_pose 2 = .ok (.invokevirtual 182, 3) := by decide +kernel
theorem dX5_pose_5 : decode cX5_pose 5 = .ok (.ifCond .eq 10, 3) := by decide +kernel
theorem dX5_pose_8 : decode cX5_pose 8 = .ok (.iload_n 2, 1) := by decide +kernel
theorem dX5_pose_9 : decode cX5_pose 9 = .ok (.invokestatic 194, 3) := by decide +kernel
theorem dX5_pose_12 : decode cX5_pose 12 = .ok (.ifCond .ne 5, 3) := by decide +kernel
theorem dX5_pose_15 : decode cX5_pose 15 = .ok (.iconst (-1), 1) := by decide +kernel
theorem dX5_pose_16 : decode cX5_pose 16 = .ok (.ireturn, 1) := by decide +kernel
theorem dX5_pose_17 : decode cX5_pose 17 = .ok (.iconst 0, 1) := by decide +kernel
theorem dX5_pose_18 : decode cX5_pose 18 = .ok (.istore_n 3, 1) := by decide +kernel
theorem dX5_pose_19 : decode cX5_pose 19 = .ok (.iload_n 3, 1) := by decide +kernel
theorem dX5_pose_20 : decode cX5_pose 20 = .ok (.bipush 16, 2) := by decide +kernel
theorem dX5_pose_22 : decode cX5_pose 22 = .ok (.if_icmp .ge 35, 3) := by decide +kernel
theorem dX5_pose_25 : decode cX5_pose 25 = .ok (.aload_n 0, 1) := by decide +kernel
theorem dX5_pose_26 : decode cX5_pose 26 = .ok (.getfield 7, 3) := by decide +kernel
theorem dX5_pose_29 : decode cX5_pose 29 = .ok (.iload_n 1, 1) := by decide +kernel
theorem dX5_pose_30 : decode cX5_pose 30 = .ok (.iaload, 1) := by decide +kernel
theorem dX5_pose_31 : decode cX5_pose 31 = .ok (.iload_n 3, 1) := by decide +kernel
theorem dX5_pose_32 : decode cX5_pose 32 = .ok (.invokestatic 142, 3) := by decide +kernel
theorem dX5_pose_35 : decode cX5_pose 35 = .ok (.iload_n 2, 1) := by decide +kernel
theorem dX5_pose_36 : decode cX5_pose 36 = .ok (.if_icmp .ne 15, 3) := by decide +kernel
theorem dX5_pose_39 : decode cX5_pose 39 = .ok (.aload_n 0, 1) := by decide +kernel
theorem dX5_pose_40 : decode cX5_pose 40 = .ok (.iconst 0, 1) := by decide +kernel
theorem dX5_pose_41 : decode cX5_pose 41 = .ok (.iload_n 1, 1) := by decide +kernel
theorem dX5_pose_42 : decode cX5_pose 42 = .ok (.iload_n 3, 1) := by decide +kernel
theorem dX5_pose_43 : decode cX5_pose 43 = .ok (.invokevirtual 145, 3) := by decide +kernel
theorem dX5_pose_46 : decode cX5_pose 46 = .ok (.ifCond .eq 5, 3) := by decide +kernel
theorem dX5_pose_49 : decode cX5_pose 49 = .ok (.iload_n 3, 1) := by decide +kernel
theorem dX5_pose_50 : decode cX5_pose 50 = .ok (.ireturn, 1) := by decide +kernel
theorem dX5_pose_51 : decode cX5_pose 51 = .ok (.iinc 3 1, 3) := by decide +kernel
theorem dX5_pose_54 : decode cX5_pose 54 = .ok (.goto (-35), 3) := by decide +kernel
theorem dX5_pose_57 : decode cX5_pose 57 = .ok (.bipush (-4), 2) := by decide +kernel
theorem dX5_pose_59 : decode cX5_pose 59 = .ok (.ireturn, 1) := by decide +kernel
theorem dX5_heavy_0 : decode cX5_heavy 0 = .ok (.aload_n 0, 1) := by decide +kernel
theorem dX5_heavy_1 : decode cX5_heavy 1 = .ok (.iload_n 1, 1) := by decide +kernel
theorem dX5_heavy_2 : decode cX5_heavy 2 = .ok (.invokevirtual 182, 3) := by decide +kernel
theorem dX5_heavy_5 : decode cX5_heavy 5 = .ok (.ifCond .eq 10, 3) := by decide +kernel
theorem dX5_heavy_8 : decode cX5_heavy 8 = .ok (.iload_n 2, 1) := by decide +kernel
theorem dX5_heavy_9 : decode cX5_heavy 9 = .ok (.invokestatic 194, 3) := by decide +kernel
theorem dX5_heavy_12 : decode cX5_heavy 12 = .ok (.ifCond .ne 5, 3) := by decide +kernel
theorem dX5_heavy_15 : decode cX5_heavy 15 = .ok (.iconst (-1), 1) := by decide +kernel
theorem dX5_heavy_16 : decode cX5_heavy 16 = .ok (.ireturn, 1) := by decide +kernel
theorem dX5_heavy_17 : decode cX5_heavy 17 = .ok (.iconst 0, 1) := by decide +kernel
theorem dX5_heavy_18 : decode cX5_heavy 18 = .ok (.istore_n 3, 1) := by decide +kernel
theorem dX5_heavy_19 : decode cX5_heavy 19 = .ok (.iconst 0, 1) := by decide +kernel
theorem dX5_heavy_20 : decode cX5_heavy 20 = .ok (.istore 4, 2) := by decide +kernel
theorem dX5_heavy_22 : decode cX5_heavy 22 = .ok (.iload 4, 2) := by decide +kernel
theorem dX5_heavy_24 : decode cX5_heavy 24 = .ok (.bipush 16, 2) := by decide +kernel
theorem dX5_heavy_26 : decode cX5_heavy 26 = .ok (.if_icmp .ge 57, 3) := by decide +kernel
theorem dX5_heavy_29 : decode cX5_heavy 29 = .ok (.aload_n 0, 1) := by decide +kernel
theorem dX5_heavy_30 : decode cX5_heavy 30 = .ok (.getfield 7, 3) := by decide +kernel
theorem dX5_heavy_33 : decode cX5_heavy 33 = .ok (.bipush 15, 2) := by decide +kernel
theorem dX5_heavy_35 : decode cX5_heavy 35 = .ok (.iaload, 1) := by decide +kernel
theorem dX5_heavy_36 : decode cX5_heavy 36 = .ok (.bipush 25, 2) := by decide +kernel
theorem dX5_heavy_38 : decode cX5_heavy 38 = .ok (.iadd, 1) := by decide +kernel
theorem dX5_heavy_39 : decode cX5_heavy 39 = .ok (.iconst 4, 1) := by decide +kernel
theorem dX5_heavy_40 : decode cX5_heavy 40 = .ok (.iload 4, 2) := by decide +kernel
theorem dX5_heavy_42 : decode cX5_heavy 42 = .ok (.invokestatic 139, 3) := by decide +kernel
theorem dX5_heavy_45 : decode cX5_heavy 45 = .ok (.isub, 1) := by decide +kernel
theorem dX5_heavy_46 : decode cX5_heavy 46 = .ok (.imul, 1) := by decide +kernel
theorem dX5_heavy_47 : decode cX5_heavy 47 = .ok (.istore 5, 2) := by decide +kernel
theorem dX5_heavy_49 : decode cX5_heavy 49 = .ok (.aload_n 0, 1) := by decide +kernel
theorem dX5_heavy_50 : decode cX5_heavy 50 = .ok (.getfield 7, 3) := by decide +kernel
theorem dX5_heavy_53 : decode cX5_heavy 53 = .ok (.iload_n 1, 1) := by decide +kernel
theorem dX5_heavy_54 : decode cX5_heavy 54 = .ok (.iaload, 1) := by decide +kernel
theorem dX5_heavy_55 : decode cX5_heavy 55 = .ok (.iload 4, 2) := by decide +kernel
theorem dX5_heavy_57 : decode cX5_heavy 57 = .ok (.invokestatic 142, 3) := by decide +kernel
theorem dX5_heavy_60 : decode cX5_heavy 60 = .ok (.iload_n 2, 1) := by decide +kernel
theorem dX5_heavy_61 : decode cX5_heavy 61 = .ok (.if_icmp .ne 14, 3) := by decide +kernel
theorem dX5_heavy_64 : decode cX5_heavy 64 = .ok (.iload 5, 2) := by decide +kernel
theorem dX5_heavy_66 : decode cX5_heavy 66 = .ok (.iload_n 3, 1) := by decide +kernel
theorem dX5_heavy_67 : decode cX5_heavy 67 = .ok (.if_icmp .le 8, 3) := by decide +kernel
theorem dX5_heavy_70 : decode cX5_heavy 70 = .ok (.iload 5, 2) := by decide +kernel
theorem dX5_heavy_72 : decode cX5_heavy 72 = .ok (.goto 4, 3) := by decide +kernel
theorem dX5_heavy_75 : decode cX5_heavy 75 = .ok (.iload_n 3, 1) := by decide +kernel
theorem dX5_heavy_76 : decode cX5_heavy 76 = .ok (.istore_n 3, 1) := by decide +kernel
theorem dX5_heavy_77 : decode cX5_heavy 77 = .ok (.iinc 4 1, 3) := by decide +kernel
theorem dX5_heavy_80 : decode cX5_heavy 80 = .ok (.goto (-58), 3) := by decide +kernel
theorem dX5_heavy_83 : decode cX5_heavy 83 = .ok (.iload_n 3, 1) := by decide +kernel
theorem dX5_heavy_84 : decode cX5_heavy 84 = .ok (.ifCond .ne 8, 3) := by decide +kernel
theorem dX5_heavy_87 : decode cX5_heavy 87 = .ok (.bipush (-4), 2) := by decide +kernel
theorem dX5_heavy_89 : decode cX5_heavy 89 = .ok (.goto 15, 3) := by decide +kernel
theorem dX5_heavy_92 : decode cX5_heavy 92 = .ok (.iload_n 3, 1) := by decide +kernel
theorem dX5_heavy_93 : decode cX5_heavy 93 = .ok (.bipush 99, 2) := by decide +kernel
theorem dX5_heavy_95 : decode cX5_heavy 95 = .ok (.if_icmp .le 8, 3) := by decide +kernel
theorem dX5_heavy_98 : decode cX5_heavy 98 = .ok (.bipush 99, 2) := by decide +kernel
theorem dX5_heavy_100 : decode cX5_heavy 100 = .ok (.goto 4, 3) := by decide +kernel
theorem dX5_heavy_103 : decode cX5_heavy 103 = .ok (.iload_n 3, 1) := by decide +kernel
theorem dX5_heavy_104 : decode cX5_heavy 104 = .ok (.ireturn, 1) := by decide +kernel
theorem dX5_need_0 : decode cX5_need 0 = .ok (.aload_n 0, 1) := by decide +kernel
theorem dX5_need_1 : decode cX5_need 1 = .ok (.iconst 0, 1) := by decide +kernel
theorem dX5_need_2 : decode cX5_need 2 = .ok (.sipush 275, 3) := by decide +kernel
theorem dX5_need_5 : decode cX5_need 5 = .ok (.invokevirtual 216, 3) := by decide +kernel
theorem dX5_need_8 : decode cX5_need 8 = .ok (.iconst 1, 1) := by decide +kernel
theorem dX5_need_9 : decode cX5_need 9 = .ok (.istore_n 1, 1) := by decide +kernel
theorem dX5_need_10 : decode cX5_need 10 = .ok (.iload_n 1, 1) := by decide +kernel
theorem dX5_need_11 : decode cX5_need 11 = .ok (.bipush 99, 2) := by decide +kernel
theorem dX5_need_13 : decode cX5_need 13 = .ok (.if_icmp .gt 66, 3) := by decide +kernel
theorem dX5_need_16 : decode cX5_need 16 = .ok (.aload_n 0, 1) := by decide +kernel
theorem dX5_need_17 : decode cX5_need 17 = .ok (.getfield 7, 3) := by decide +kernel
theorem dX5_need_20 : decode cX5_need 20 = .ok (.sipush 290, 3) := by decide +kernel
theorem dX5_need_23 : decode cX5_need 23 = .ok (.iload_n 1, 1) := by decide +kernel
theorem dX5_need_24 : decode cX5_need 24 = .ok (.bipush 25, 2) := by decide +kernel
theorem dX5_need_26 : decode cX5_need 26 = .ok (.isub, 1) := by decide +kernel
theorem dX5_need_27 : decode cX5_need 27 = .ok (.iastore, 1) := by decide +kernel
theorem dX5_need_28 : decode cX5_need 28 = .ok (.iconst 1, 1) := by decide +kernel
theorem dX5_need_29 : decode cX5_need 29 = .ok (.istore_n 2, 1) := by decide +kernel
theorem dX5_need_30 : decode cX5_need 30 = .ok (.iconst 0, 1) := by decide +kernel
theorem dX5_need_31 : decode cX5_need 31 = .ok (.istore_n 3, 1) := by decide +kernel
theorem dX5_need_32 : decode cX5_need 32 = .ok (.iload_n 3, 1) := by decide +kernel
theorem dX5_need_33 : decode cX5_need 33 = .ok (.aload_n 0, 1) := by decide +kernel
theorem dX5_need_34 : decode cX5_need 34 = .ok (.getfield 131, 3) := by decide +kernel
theorem dX5_need_37 : decode cX5_need 37 = .ok (.if_icmp .ge 30, 3) := by decide +kernel
theorem dX5_need_40 : decode cX5_need 40 = .ok (.iload_n 2, 1) := by decide +kernel
theorem dX5_need_41 : decode cX5_need 41 = .ok (.ifCond .eq 18, 3) := by decide +kernel
theorem dX5_need_44 : decode cX5_need 44 = .ok (.aload_n 0, 1) := by decide +kernel
theorem dX5_need_45 : decode cX5_need 45 = .ok (.sipush 275, 3) := by decide +kernel
theorem dX5_need_48 : decode cX5_need 48 = .ok (.iload_n 3, 1) := by decide +kernel
theorem dX5_need_49 : decode cX5_need 49 = .ok (.invokevirtual 176, 3) := by decide +kernel
theorem dX5_need_52 : decode cX5_need 52 = .ok (.ifCond .eq 7, 3) := by decide +kernel
theorem dX5_need_55 : decode cX5_need 55 = .ok (.iconst 1, 1) := by decide +kernel
theorem dX5_need_56 : decode cX5_need 56 = .ok (.goto 4, 3) := by decide +kernel
theorem dX5_need_59 : decode cX5_need 59 = .ok (.iconst 0, 1) := by decide +kernel
theorem dX5_need_60 : decode cX5_need 60 = .ok (.istore_n 2, 1) := by decide +kernel
theorem dX5_need_61 : decode cX5_need 61 = .ok (.iinc 3 1, 3) := by decide +kernel
theorem dX5_need_64 : decode cX5_need 64 = .ok (.goto (-32), 3) := by decide +kernel
theorem dX5_need_67 : decode cX5_need 67 = .ok (.iload_n 2, 1) := by decide +kernel
theorem dX5_need_68 : decode cX5_need 68 = .ok (.ifCond .eq 5, 3) := by decide +kernel
theorem dX5_need_71 : decode cX5_need 71 = .ok (.iload_n 1, 1) := by decide +kernel
theorem dX5_need_72 : decode cX5_need 72 = .ok (.ireturn, 1) := by decide +kernel
theorem dX5_need_73 : decode cX5_need 73 = .ok (.iinc 1 1, 3) := by decide +kernel
theorem dX5_need_76 : decode cX5_need 76 = .ok (.goto (-66), 3) := by decide +kernel
theorem dX5_need_79 : decode cX5_need 79 = .ok (.bipush (-4), 2) := by decide +kernel
theorem dX5_need_81 : decode cX5_need 81 = .ok (.ireturn, 1) := by decide +kernel
theorem dX5_liar_0 : decode cX5_liar 0 = .ok (.iload_n 1, 1) := by decide +kernel
theorem dX5_liar_1 : decode cX5_liar 1 = .ok (.i2l, 1) := by decide +kernel
theorem dX5_liar_2 : decode cX5_liar 2 = .ok (.lconst 0, 1) := by decide +kernel
theorem dX5_liar_3 : decode cX5_liar 3 = .ok (.ldc2_w 226, 3) := by decide +kernel
theorem dX5_liar_6 : decode cX5_liar 6 = .ok (.invokestatic 46, 3) := by decide +kernel
theorem dX5_liar_9 : decode cX5_liar 9 = .ok (.ifCond .eq 13, 3) := by decide +kernel
theorem dX5_liar_12 : decode cX5_liar 12 = .ok (.iload_n 2, 1) := by decide +kernel
theorem dX5_liar_13 : decode cX5_liar 13 = .ok (.i2l, 1) := by decide +kernel
theorem dX5_liar_14 : decode cX5_liar 14 = .ok (.lconst 0, 1) := by decide +kernel
theorem dX5_liar_15 : decode cX5_liar 15 = .ok (.lconst 1, 1) := by decide +kernel
theorem dX5_liar_16 : decode cX5_liar 16 = .ok (.invokestatic 46, 3) := by decide +kernel
theorem dX5_liar_19 : decode cX5_liar 19 = .ok (.ifCond .ne 5, 3) := by decide +kernel
theorem dX5_liar_22 : decode cX5_liar 22 = .ok (.iconst (-1), 1) := by decide +kernel
theorem dX5_liar_23 : decode cX5_liar 23 = .ok (.ireturn, 1) := by decide +kernel
theorem dX5_liar_24 : decode cX5_liar 24 = .ok (.aload_n 0, 1) := by decide +kernel
theorem dX5_liar_25 : decode cX5_liar 25 = .ok (.iconst 0, 1) := by decide +kernel
theorem dX5_liar_26 : decode cX5_liar 26 = .ok (.iload_n 1, 1) := by decide +kernel
theorem dX5_liar_27 : decode cX5_liar 27 = .ok (.invokevirtual 228, 3) := by decide +kernel
theorem dX5_liar_30 : decode cX5_liar 30 = .ok (.istore_n 3, 1) := by decide +kernel
theorem dX5_liar_31 : decode cX5_liar 31 = .ok (.bipush (-4), 2) := by decide +kernel
theorem dX5_liar_33 : decode cX5_liar 33 = .ok (.istore 4, 2) := by decide +kernel
theorem dX5_liar_35 : decode cX5_liar 35 = .ok (.iconst 0, 1) := by decide +kernel
theorem dX5_liar_36 : decode cX5_liar 36 = .ok (.istore 5, 2) := by decide +kernel
theorem dX5_liar_38 : decode cX5_liar 38 = .ok (.iload 5, 2) := by decide +kernel
theorem dX5_liar_40 : decode cX5_liar 40 = .ok (.iconst 4, 1) := by decide +kernel
theorem dX5_liar_41 : decode cX5_liar 41 = .ok (.if_icmp .ge 67, 3) := by decide +kernel
theorem dX5_liar_44 : decode cX5_liar 44 = .ok (.aload_n 0, 1) := by decide +kernel
theorem dX5_liar_45 : decode cX5_liar 45 = .ok (.iconst 0, 1) := by decide +kernel
theorem dX5_liar_46 : decode cX5_liar 46 = .ok (.sipush 275, 3) := by decide +kernel
theorem dX5_liar_49 : decode cX5_liar 49 = .ok (.invokevirtual 216, 3) := by decide +kernel
theorem dX5_liar_52 : decode cX5_liar 52 = .ok (.aload_n 0, 1) := by decide +kernel
theorem dX5_liar_53 : decode cX5_liar 53 = .ok (.getfield 7, 3) := by decide +kernel
theorem dX5_liar_56 : decode cX5_liar 56 = .ok (.sipush 291, 3) := by decide +kernel
theorem dX5_liar_59 : decode cX5_liar 59 = .ok (.iload 5, 2) := by decide +kernel
theorem dX5_liar_61 : decode cX5_liar 61 = .ok (.iadd, 1) := by decide +kernel
theorem dX5_liar_62 : decode cX5_liar 62 = .ok (.iconst (-1), 1) := by decide +kernel
theorem dX5_liar_63 : decode cX5_liar 63 = .ok (.iastore, 1) := by decide +kernel
theorem dX5_liar_64 : decode cX5_liar 64 = .ok (.aload_n 0, 1) := by decide +kernel
theorem dX5_liar_65 : decode cX5_liar 65 = .ok (.sipush 275, 3) := by decide +kernel
theorem dX5_liar_68 : decode cX5_liar 68 = .ok (.iload_n 1, 1) := by decide +kernel
theorem dX5_liar_69 : decode cX5_liar 69 = .ok (.invokevirtual 228, 3) := by decide +kernel
theorem dX5_liar_72 : decode cX5_liar 72 = .ok (.istore 6, 2) := by decide +kernel
theorem dX5_liar_74 : decode cX5_liar 74 = .ok (.iload 6, 2) := by decide +kernel
theorem dX5_liar_76 : decode cX5_liar 76 = .ok (.iload_n 3, 1) := by decide +kernel
theorem dX5_liar_77 : decode cX5_liar 77 = .ok (.if_icmp .ge 8, 3) := by decide +kernel
theorem dX5_liar_80 : decode cX5_liar 80 = .ok (.iload 5, 2) := by decide +kernel
theorem dX5_liar_82 : decode cX5_liar 82 = .ok (.goto 5, 3) := by decide +kernel
theorem dX5_liar_85 : decode cX5_liar 85 = .ok (.iload 4, 2) := by decide +kernel
theorem dX5_liar_87 : decode cX5_liar 87 = .ok (.istore 4, 2) := by decide +kernel
theorem dX5_liar_89 : decode cX5_liar 89 = .ok (.iload 6, 2) := by decide +kernel
theorem dX5_liar_91 : decode cX5_liar 91 = .ok (.iload_n 3, 1) := by decide +kernel
theorem dX5_liar_92 : decode cX5_liar 92 = .ok (.if_icmp .ge 8, 3) := by decide +kernel
theorem dX5_liar_95 : decode cX5_liar 95 = .ok (.iload 6, 2) := by decide +kernel
theorem dX5_liar_97 : decode cX5_liar 97 = .ok (.goto 4, 3) := by decide +kernel
theorem dX5_liar_100 : decode cX5_liar 100 = .ok (.iload_n 3, 1) := by decide +kernel
theorem dX5_liar_101 : decode cX5_liar 101 = .ok (.istore_n 3, 1) := by decide +kernel
theorem dX5_liar_102 : decode cX5_liar 102 = .ok (.iinc 5 1, 3) := by decide +kernel
theorem dX5_liar_105 : decode cX5_liar 105 = .ok (.goto (-67), 3) := by decide +kernel
theorem dX5_liar_108 : decode cX5_liar 108 = .ok (.iload 4, 2) := by decide +kernel
theorem dX5_liar_110 : decode cX5_liar 110 = .ok (.bipush (-4), 2) := by decide +kernel
theorem dX5_liar_112 : decode cX5_liar 112 = .ok (.if_icmp .eq 7, 3) := by decide +kernel
theorem dX5_liar_115 : decode cX5_liar 115 = .ok (.iload_n 2, 1) := by decide +kernel
theorem dX5_liar_116 : decode cX5_liar 116 = .ok (.ifCond .ne 8, 3) := by decide +kernel
theorem dX5_liar_119 : decode cX5_liar 119 = .ok (.iload 4, 2) := by decide +kernel
theorem dX5_liar_121 : decode cX5_liar 121 = .ok (.goto 4, 3) := by decide +kernel
theorem dX5_liar_124 : decode cX5_liar 124 = .ok (.iload_n 3, 1) := by decide +kernel
theorem dX5_liar_125 : decode cX5_liar 125 = .ok (.ireturn, 1) := by decide +kernel
theorem dX5_agreeBehind_0 : decode cX5_agreeBehind 0 = .ok (.aload_n 0, 1) := by decide +kernel
theorem dX5_agreeBehind_1 : decode cX5_agreeBehind 1 = .ok (.iload_n 1, 1) := by decide +kernel
theorem dX5_agreeBehind_2 : decode cX5_agreeBehind 2 = .ok (.iload_n 2, 1) := by decide +kernel
theorem dX5_agreeBehind_3 : decode cX5_agreeBehind 3 = .ok (.invokevirtual 228, 3) := by decide +kernel
theorem dX5_agreeBehind_6 : decode cX5_agreeBehind 6 = .ok (.pop, 1) := by decide +kernel
theorem dX5_agreeBehind_7 : decode cX5_agreeBehind 7 = .ok (.aload_n 0, 1) := by decide +kernel
theorem dX5_agreeBehind_8 : decode cX5_agreeBehind 8 = .ok (.sipush 220, 3) := by decide +kernel
theorem dX5_agreeBehind_11 : decode cX5_agreeBehind 11 = .ok (.invokevirtual 179, 3) := by decide +kernel
theorem dX5_agreeBehind_14 : decode cX5_agreeBehind 14 = .ok (.invokestatic 231, 3) := by decide +kernel
theorem dX5_agreeBehind_17 : decode cX5_agreeBehind 17 = .ok (.ireturn, 1) := by decide +kernel
theorem dX5_lose_0 : decode cX5_lose 0 = .ok (.iload_n 1, 1) := by decide +kernel
theorem dX5_lose_1 : decode cX5_lose 1 = .ok (.i2l, 1) := by decide +kernel
theorem dX5_lose_2 : decode cX5_lose 2 = .ok (.lconst 0, 1) := by decide +kernel
theorem dX5_lose_3 : decode cX5_lose 3 = .ok (.ldc2_w 226, 3) := by decide +kernel
theorem dX5_lose_6 : decode cX5_lose 6 = .ok (.invokestatic 46, 3) := by decide +kernel
theorem dX5_lose_9 : decode cX5_lose 9 = .ok (.ifCond .eq 13, 3) := by decide +kernel
theorem dX5_lose_12 : decode cX5_lose 12 = .ok (.iload_n 2, 1) := by decide +kernel
theorem dX5_lose_13 : decode cX5_lose 13 = .ok (.i2l, 1) := by decide +kernel
theorem dX5_lose_14 : decode cX5_lose 14 = .ok (.lconst 0, 1) := by decide +kernel
theorem dX5_lose_15 : decode cX5_lose 15 = .ok (.lconst 1, 1) := by decide +kernel
theorem dX5_lose_16 : decode cX5_lose 16 = .ok (.invokestatic 46, 3) := by decide +kernel
theorem dX5_lose_19 : decode cX5_lose 19 = .ok (.ifCond .ne 5, 3) := by decide +kernel
theorem dX5_lose_22 : decode cX5_lose 22 = .ok (.iconst (-1), 1) := by decide +kernel
theorem dX5_lose_23 : decode cX5_lose 23 = .ok (.ireturn, 1) := by decide +kernel
theorem dX5_lose_24 : decode cX5_lose 24 = .ok (.aload_n 0, 1) := by decide +kernel
theorem dX5_lose_25 : decode cX5_lose 25 = .ok (.iconst 0, 1) := by decide +kernel
theorem dX5_lose_26 : decode cX5_lose 26 = .ok (.iload_n 1, 1) := by decide +kernel
theorem dX5_lose_27 : decode cX5_lose 27 = .ok (.invokevirtual 234, 3) := by decide +kernel
theorem dX5_lose_30 : decode cX5_lose 30 = .ok (.istore_n 3, 1) := by decide +kernel
theorem dX5_lose_31 : decode cX5_lose 31 = .ok (.bipush (-4), 2) := by decide +kernel
theorem dX5_lose_33 : decode cX5_lose 33 = .ok (.istore 4, 2) := by decide +kernel
theorem dX5_lose_35 : decode cX5_lose 35 = .ok (.iconst 0, 1) := by decide +kernel
theorem dX5_lose_36 : decode cX5_lose 36 = .ok (.istore 5, 2) := by decide +kernel
theorem dX5_lose_38 : decode cX5_lose 38 = .ok (.iload 5, 2) := by decide +kernel
theorem dX5_lose_40 : decode cX5_lose 40 = .ok (.aload_n 0, 1) := by decide +kernel
theorem dX5_lose_41 : decode cX5_lose 41 = .ok (.getfield 7, 3) := by decide +kernel
theorem dX5_lose_44 : decode cX5_lose 44 = .ok (.bipush 52, 2) := by decide +kernel
theorem dX5_lose_46 : decode cX5_lose 46 = .ok (.iaload, 1) := by decide +kernel
theorem dX5_lose_47 : decode cX5_lose 47 = .ok (.if_icmp .ge 58, 3) := by decide +kernel
theorem dX5_lose_50 : decode cX5_lose 50 = .ok (.aload_n 0, 1) := by decide +kernel
theorem dX5_lose_51 : decode cX5_lose 51 = .ok (.iconst 1, 1) := by decide +kernel
theorem dX5_lose_52 : decode cX5_lose 52 = .ok (.iload 5, 2) := by decide +kernel
theorem dX5_lose_54 : decode cX5_lose 54 = .ok (.ishl, 1) := by decide +kernel
theorem dX5_lose_55 : decode cX5_lose 55 = .ok (.putfield 149, 3) := by decide +kernel
theorem dX5_lose_58 : decode cX5_lose 58 = .ok (.aload_n 0, 1) := by decide +kernel
theorem dX5_lose_59 : decode cX5_lose 59 = .ok (.iconst 0, 1) := by decide +kernel
theorem dX5_lose_60 : decode cX5_lose 60 = .ok (.iload_n 1, 1) := by decide +kernel
theorem dX5_lose_61 : decode cX5_lose 61 = .ok (.invokevirtual 234, 3) := by decide +kernel
theorem dX5_lose_64 : decode cX5_lose 64 = .ok (.istore 6, 2) := by decide +kernel
theorem dX5_lose_66 : decode cX5_lose 66 = .ok (.aload_n 0, 1) := by decide +kernel
theorem dX5_lose_67 : decode cX5_lose 67 = .ok (.iconst 0, 1) := by decide +kernel
theorem dX5_lose_68 : decode cX5_lose 68 = .ok (.putfield 149, 3) := by decide +kernel
theorem dX5_lose_71 : decode cX5_lose 71 = .ok (.iload 6, 2) := by decide +kernel
theorem dX5_lose_73 : decode cX5_lose 73 = .ok (.iload_n 3, 1) := by decide +kernel
theorem dX5_lose_74 : decode cX5_lose 74 = .ok (.if_icmp .le 8, 3) := by decide +kernel
theorem dX5_lose_77 : decode cX5_lose 77 = .ok (.iload 5, 2) := by decide +kernel
theorem dX5_lose_79 : decode cX5_lose 79 = .ok (.goto 5, 3) := by decide +kernel
theorem dX5_lose_82 : decode cX5_lose 82 = .ok (.iload 4, 2) := by decide +kernel
theorem dX5_lose_84 : decode cX5_lose 84 = .ok (.istore 4, 2) := by decide +kernel
theorem dX5_lose_86 : decode cX5_lose 86 = .ok (.iload 6, 2) := by decide +kernel
theorem dX5_lose_88 : decode cX5_lose 88 = .ok (.iload_n 3, 1) := by decide +kernel
theorem dX5_lose_89 : decode cX5_lose 89 = .ok (.if_icmp .le 8, 3) := by decide +kernel
theorem dX5_lose_92 : decode cX5_lose 92 = .ok (.iload 6, 2) := by decide +kernel
theorem dX5_lose_94 : decode cX5_lose 94 = .ok (.goto 4, 3) := by decide +kernel
theorem dX5_lose_97 : decode cX5_lose 97 = .ok (.iload_n 3, 1) := by decide +kernel
theorem dX5_lose_98 : decode cX5_lose 98 = .ok (.istore_n 3, 1) := by decide +kernel
theorem dX5_lose_99 : decode cX5_lose 99 = .ok (.iinc 5 1, 3) := by decide +kernel
theorem dX5_lose_102 : decode cX5_lose 102 = .ok (.goto (-64), 3) := by decide +kernel
theorem dX5_lose_105 : decode cX5_lose 105 = .ok (.iload 4, 2) := by decide +kernel
theorem dX5_lose_107 : decode cX5_lose 107 = .ok (.bipush (-4), 2) := by decide +kernel
theorem dX5_lose_109 : decode cX5_lose 109 = .ok (.if_icmp .eq 7, 3) := by decide +kernel
theorem dX5_lose_112 : decode cX5_lose 112 = .ok (.iload_n 2, 1) := by decide +kernel
theorem dX5_lose_113 : decode cX5_lose 113 = .ok (.ifCond .ne 8, 3) := by decide +kernel
theorem dX5_lose_116 : decode cX5_lose 116 = .ok (.iload 4, 2) := by decide +kernel
theorem dX5_lose_118 : decode cX5_lose 118 = .ok (.goto 4, 3) := by decide +kernel
theorem dX5_lose_121 : decode cX5_lose 121 = .ok (.iload_n 3, 1) := by decide +kernel
theorem dX5_lose_122 : decode cX5_lose 122 = .ok (.ireturn, 1) := by decide +kernel
theorem dX5_swap_0 : decode cX5_swap 0 = .ok (.iload_n 1, 1) := by decide +kernel
theorem dX5_swap_1 : decode cX5_swap 1 = .ok (.i2l, 1) := by decide +kernel
theorem dX5_swap_2 : decode cX5_swap 2 = .ok (.lconst 0, 1) := by decide +kernel
theorem dX5_swap_3 : decode cX5_swap 3 = .ok (.ldc2_w 226, 3) := by decide +kernel
theorem dX5_swap_6 : decode cX5_swap 6 = .ok (.invokestatic 46, 3) := by decide +kernel
theorem dX5_swap_9 : decode cX5_swap 9 = .ok (.ifCond .eq 13, 3) := by decide +kernel
theorem dX5_swap_12 : decode cX5_swap 12 = .ok (.iload_n 2, 1) := by decide +kernel
theorem dX5_swap_13 : decode cX5_swap 13 = .ok (.i2l, 1) := by decide +kernel
theorem dX5_swap_14 : decode cX5_swap 14 = .ok (.lconst 0, 1) := by decide +kernel
theorem dX5_swap_15 : decode cX5_swap 15 = .ok (.lconst 1, 1) := by decide +kernel
theorem dX5_swap_16 : decode cX5_swap 16 = .ok (.invokestatic 46, 3) := by decide +kernel
theorem dX5_swap_19 : decode cX5_swap 19 = .ok (.ifCond .ne 5, 3) := by decide +kernel
theorem dX5_swap_22 : decode cX5_swap 22 = .ok (.iconst (-1), 1) := by decide +kernel
theorem dX5_swap_23 : decode cX5_swap 23 = .ok (.ireturn, 1) := by decide +kernel
theorem dX5_swap_24 : decode cX5_swap 24 = .ok (.aload_n 0, 1) := by decide +kernel
theorem dX5_swap_25 : decode cX5_swap 25 = .ok (.iconst 0, 1) := by decide +kernel
theorem dX5_swap_26 : decode cX5_swap 26 = .ok (.iload_n 1, 1) := by decide +kernel
theorem dX5_swap_27 : decode cX5_swap 27 = .ok (.invokevirtual 234, 3) := by decide +kernel
theorem dX5_swap_30 : decode cX5_swap 30 = .ok (.istore_n 3, 1) := by decide +kernel
theorem dX5_swap_31 : decode cX5_swap 31 = .ok (.bipush (-4), 2) := by decide +kernel
theorem dX5_swap_33 : decode cX5_swap 33 = .ok (.istore 4, 2) := by decide +kernel
theorem dX5_swap_35 : decode cX5_swap 35 = .ok (.iconst 0, 1) := by decide +kernel
theorem dX5_swap_36 : decode cX5_swap 36 = .ok (.istore 5, 2) := by decide +kernel
theorem dX5_swap_38 : decode cX5_swap 38 = .ok (.iload 5, 2) := by decide +kernel
theorem dX5_swap_40 : decode cX5_swap 40 = .ok (.aload_n 0, 1) := by decide +kernel
theorem dX5_swap_41 : decode cX5_swap 41 = .ok (.getfield 7, 3) := by decide +kernel
theorem dX5_swap_44 : decode cX5_swap 44 = .ok (.bipush 52, 2) := by decide +kernel
theorem dX5_swap_46 : decode cX5_swap 46 = .ok (.iaload, 1) := by decide +kernel
theorem dX5_swap_47 : decode cX5_swap 47 = .ok (.if_icmp .ge 127, 3) := by decide +kernel
theorem dX5_swap_50 : decode cX5_swap 50 = .ok (.iload 5, 2) := by decide +kernel
theorem dX5_swap_52 : decode cX5_swap 52 = .ok (.iconst 1, 1) := by decide +kernel
theorem dX5_swap_53 : decode cX5_swap 53 = .ok (.iadd, 1) := by decide +kernel
theorem dX5_swap_54 : decode cX5_swap 54 = .ok (.istore 6, 2) := by decide +kernel
theorem dX5_swap_56 : decode cX5_swap 56 = .ok (.iload 6, 2) := by decide +kernel
theorem dX5_swap_58 : decode cX5_swap 58 = .ok (.aload_n 0, 1) := by decide +kernel
theorem dX5_swap_59 : decode cX5_swap 59 = .ok (.getfield 7, 3) := by decide +kernel
theorem dX5_swap_62 : decode cX5_swap 62 = .ok (.bipush 52, 2) := by decide +kernel
theorem dX5_swap_64 : decode cX5_swap 64 = .ok (.iaload, 1) := by decide +kernel
theorem dX5_swap_65 : decode cX5_swap 65 = .ok (.if_icmp .ge 103, 3) := by decide +kernel
theorem dX5_swap_68 : decode cX5_swap 68 = .ok (.aload_n 0, 1) := by decide +kernel
theorem dX5_swap_69 : decode cX5_swap 69 = .ok (.iconst 0, 1) := by decide +kernel
theorem dX5_swap_70 : decode cX5_swap 70 = .ok (.sipush 275, 3) := by decide +kernel
theorem dX5_swap_73 : decode cX5_swap 73 = .ok (.invokevirtual 216, 3) := by decide +kernel
theorem dX5_swap_76 : decode cX5_swap 76 = .ok (.aload_n 0, 1) := by decide +kernel
theorem dX5_swap_77 : decode cX5_swap 77 = .ok (.getfield 7, 3) := by decide +kernel
theorem dX5_swap_80 : decode cX5_swap 80 = .ok (.sipush 311, 3) := by decide +kernel
theorem dX5_swap_83 : decode cX5_swap 83 = .ok (.iload 5, 2) := by decide +kernel
theorem dX5_swap_85 : decode cX5_swap 85 = .ok (.iadd, 1) := by decide +kernel
theorem dX5_swap_86 : decode cX5_swap 86 = .ok (.aload_n 0, 1) := by decide +kernel
theorem dX5_swap_87 : decode cX5_swap 87 = .ok (.getfield 7, 3) := by decide +kernel
theorem dX5_swap_90 : decode cX5_swap 90 = .ok (.bipush 36, 2) := by decide +kernel
theorem dX5_swap_92 : decode cX5_swap 92 = .ok (.iload 6, 2) := by decide +kernel
theorem dX5_swap_94 : decode cX5_swap 94 = .ok (.iadd, 1) := by decide +kernel
theorem dX5_swap_95 : decode cX5_swap 95 = .ok (.iaload, 1) := by decide +kernel
theorem dX5_swap_96 : decode cX5_swap 96 = .ok (.iastore, 1) := by decide +kernel
theorem dX5_swap_97 : decode cX5_swap 97 = .ok (.aload_n 0, 1) := by decide +kernel
theorem dX5_swap_98 : decode cX5_swap 98 = .ok (.getfield 7, 3) := by decide +kernel
theorem dX5_swap_101 : decode cX5_swap 101 = .ok (.sipush 311, 3) := by decide +kernel
theorem dX5_swap_104 : decode cX5_swap 104 = .ok (.iload 6, 2) := by decide +kernel
theorem dX5_swap_106 : decode cX5_swap 106 = .ok (.iadd, 1) := by decide +kernel
theorem dX5_swap_107 : decode cX5_swap 107 = .ok (.aload_n 0, 1) := by decide +kernel
theorem dX5_swap_108 : decode cX5_swap 108 = .ok (.getfield 7, 3) := by decide +kernel
theorem dX5_swap_111 : decode cX5_swap 111 = .ok (.bipush 36, 2) := by decide +kernel
theorem dX5_swap_113 : decode cX5_swap 113 = .ok (.iload 5, 2) := by decide +kernel
theorem dX5_swap_115 : decode cX5_swap 115 = .ok (.iadd, 1) := by decide +kernel
theorem dX5_swap_116 : decode cX5_swap 116 = .ok (.iaload, 1) := by decide +kernel
theorem dX5_swap_117 : decode cX5_swap 117 = .ok (.iastore, 1) := by decide +kernel
theorem dX5_swap_118 : decode cX5_swap 118 = .ok (.aload_n 0, 1) := by decide +kernel
theorem dX5_swap_119 : decode cX5_swap 119 = .ok (.sipush 275, 3) := by decide +kernel
theorem dX5_swap_122 : decode cX5_swap 122 = .ok (.iload_n 1, 1) := by decide +kernel
theorem dX5_swap_123 : decode cX5_swap 123 = .ok (.invokevirtual 234, 3) := by decide +kernel
theorem dX5_swap_126 : decode cX5_swap 126 = .ok (.istore 7, 2) := by decide +kernel
theorem dX5_swap_128 : decode cX5_swap 128 = .ok (.iload 7, 2) := by decide +kernel
theorem dX5_swap_130 : decode cX5_swap 130 = .ok (.iload_n 3, 1) := by decide +kernel
theorem dX5_swap_131 : decode cX5_swap 131 = .ok (.if_icmp .le 14, 3) := by decide +kernel
theorem dX5_swap_134 : decode cX5_swap 134 = .ok (.bipush 10, 2) := by decide +kernel
theorem dX5_swap_136 : decode cX5_swap 136 = .ok (.iload 5, 2) := by decide +kernel
theorem dX5_swap_138 : decode cX5_swap 138 = .ok (.imul, 1) := by decide +kernel
theorem dX5_swap_139 : decode cX5_swap 139 = .ok (.iload 6, 2) := by decide +kernel
theorem dX5_swap_141 : decode cX5_swap 141 = .ok (.iadd, 1) := by decide +kernel
theorem dX5_swap_142 : decode cX5_swap 142 = .ok (.goto 5, 3) := by decide +kernel
theorem dX5_swap_145 : decode cX5_swap 145 = .ok (.iload 4, 2) := by decide +kernel
theorem dX5_swap_147 : decode cX5_swap 147 = .ok (.istore 4, 2) := by decide +kernel
theorem dX5_swap_149 : decode cX5_swap 149 = .ok (.iload 7, 2) := by decide +kernel
theorem dX5_swap_151 : decode cX5_swap 151 = .ok (.iload_n 3, 1) := by decide +kernel
theorem dX5_swap_152 : decode cX5_swap 152 = .ok (.if_icmp .le 8, 3) := by decide +kernel
theorem dX5_swap_155 : decode cX5_swap 155 = .ok (.iload 7, 2) := by decide +kernel
theorem dX5_swap_157 : decode cX5_swap 157 = .ok (.goto 4, 3) := by decide +kernel
theorem dX5_swap_160 : decode cX5_swap 160 = .ok (.iload_n 3, 1) := by decide +kernel
theorem dX5_swap_161 : decode cX5_swap 161 = .ok (.istore_n 3, 1) := by decide +kernel
theorem dX5_swap_162 : decode cX5_swap 162 = .ok (.iinc 6 1, 3) := by decide +kernel
theorem dX5_swap_165 : decode cX5_swap 165 = .ok (.goto (-109), 3) := by decide +kernel
theorem dX5_swap_168 : decode cX5_swap 168 = .ok (.iinc 5 1, 3) := by decide +kernel
theorem dX5_swap_171 : decode cX5_swap 171 = .ok (.goto (-133), 3) := by decide +kernel
theorem dX5_swap_174 : decode cX5_swap 174 = .ok (.iload 4, 2) := by decide +kernel
theorem dX5_swap_176 : decode cX5_swap 176 = .ok (.bipush (-4), 2) := by decide +kernel
theorem dX5_swap_178 : decode cX5_swap 178 = .ok (.if_icmp .eq 7, 3) := by decide +kernel
theorem dX5_swap_181 : decode cX5_swap 181 = .ok (.iload_n 2, 1) := by decide +kernel
theorem dX5_swap_182 : decode cX5_swap 182 = .ok (.ifCond .ne 8, 3) := by decide +kernel
theorem dX5_swap_185 : decode cX5_swap 185 = .ok (.iload 4, 2) := by decide +kernel
theorem dX5_swap_187 : decode cX5_swap 187 = .ok (.goto 4, 3) := by decide +kernel
theorem dX5_swap_190 : decode cX5_swap 190 = .ok (.iload_n 3, 1) := by decide +kernel
theorem dX5_swap_191 : decode cX5_swap 191 = .ok (.ireturn, 1) := by decide +kernel
theorem dX5_gain_0 : decode cX5_gain 0 = .ok (.iload_n 1, 1) := by decide +kernel
theorem dX5_gain_1 : decode cX5_gain 1 = .ok (.invokestatic 191, 3) := by decide +kernel
theorem dX5_gain_4 : decode cX5_gain 4 = .ok (.ifCond .eq 26, 3) := by decide +kernel
theorem dX5_gain_7 : decode cX5_gain 7 = .ok (.aload_n 0, 1) := by decide +kernel
theorem dX5_gain_8 : decode cX5_gain 8 = .ok (.iload_n 2, 1) := by decide +kernel
theorem dX5_gain_9 : decode cX5_gain 9 = .ok (.invokevirtual 182, 3) := by decide +kernel
theorem dX5_gain_12 : decode cX5_gain 12 = .ok (.ifCond .eq 18, 3) := by decide +kernel
theorem dX5_gain_15 : decode cX5_gain 15 = .ok (.iload_n 3, 1) := by decide +kernel
theorem dX5_gain_16 : decode cX5_gain 16 = .ok (.invokestatic 194, 3) := by decide +kernel
theorem dX5_gain_19 : decode cX5_gain 19 = .ok (.ifCond .eq 11, 3) := by decide +kernel
theorem dX5_gain_22 : decode cX5_gain 22 = .ok (.iload 4, 2) := by decide +kernel
theorem dX5_gain_24 : decode cX5_gain 24 = .ok (.invokestatic 197, 3) := by decide +kernel
theorem dX5_gain_27 : decode cX5_gain 27 = .ok (.ifCond .ne 5, 3) := by decide +kernel
theorem dX5_gain_30 : decode cX5_gain 30 = .ok (.iconst (-1), 1) := by decide +kernel
theorem dX5_gain_31 : decode cX5_gain 31 = .ok (.ireturn, 1) := by decide +kernel
theorem dX5_gain_32 : decode cX5_gain 32 = .ok (.aload_n 0, 1) := by decide +kernel
theorem dX5_gain_33 : decode cX5_gain 33 = .ok (.iconst 0, 1) := by decide +kernel
theorem dX5_gain_34 : decode cX5_gain 34 = .ok (.sipush 275, 3) := by decide +kernel
theorem dX5_gain_37 : decode cX5_gain 37 = .ok (.invokevirtual 216, 3) := by decide +kernel
theorem dX5_gain_40 : decode cX5_gain 40 = .ok (.iconst 0, 1) := by decide +kernel
theorem dX5_gain_41 : decode cX5_gain 41 = .ok (.istore 5, 2) := by decide +kernel
theorem dX5_gain_43 : decode cX5_gain 43 = .ok (.iload 5, 2) := by decide +kernel
theorem dX5_gain_45 : decode cX5_gain 45 = .ok (.bipush 9, 2) := by decide +kernel
theorem dX5_gain_47 : decode cX5_gain 47 = .ok (.if_icmp .gt 40, 3) := by decide +kernel
theorem dX5_gain_50 : decode cX5_gain 50 = .ok (.aload_n 0, 1) := by decide +kernel
theorem dX5_gain_51 : decode cX5_gain 51 = .ok (.getfield 7, 3) := by decide +kernel
theorem dX5_gain_54 : decode cX5_gain 54 = .ok (.sipush 291, 3) := by decide +kernel
theorem dX5_gain_57 : decode cX5_gain 57 = .ok (.iload_n 1, 1) := by decide +kernel
theorem dX5_gain_58 : decode cX5_gain 58 = .ok (.iadd, 1) := by decide +kernel
theorem dX5_gain_59 : decode cX5_gain 59 = .ok (.iload 5, 2) := by decide +kernel
theorem dX5_gain_61 : decode cX5_gain 61 = .ok (.iconst 1, 1) := by decide +kernel
theorem dX5_gain_62 : decode cX5_gain 62 = .ok (.isub, 1) := by decide +kernel
theorem dX5_gain_63 : decode cX5_gain 63 = .ok (.iastore, 1) := by decide +kernel
theorem dX5_gain_64 : decode cX5_gain 64 = .ok (.aload_n 0, 1) := by decide +kernel
theorem dX5_gain_65 : decode cX5_gain 65 = .ok (.sipush 275, 3) := by decide +kernel
theorem dX5_gain_68 : decode cX5_gain 68 = .ok (.iload_n 2, 1) := by decide +kernel
theorem dX5_gain_69 : decode cX5_gain 69 = .ok (.iload 4, 2) := by decide +kernel
theorem dX5_gain_71 : decode cX5_gain 71 = .ok (.invokevirtual 156, 3) := by decide +kernel
theorem dX5_gain_74 : decode cX5_gain 74 = .ok (.iload_n 3, 1) := by decide +kernel
theorem dX5_gain_75 : decode cX5_gain 75 = .ok (.if_icmp .ne 6, 3) := by decide +kernel
theorem dX5_gain_78 : decode cX5_gain 78 = .ok (.iload 5, 2) := by decide +kernel
theorem dX5_gain_80 : decode cX5_gain 80 = .ok (.ireturn, 1) := by decide +kernel
theorem dX5_gain_81 : decode cX5_gain 81 = .ok (.iinc 5 1, 3) := by decide +kernel
theorem dX5_gain_84 : decode cX5_gain 84 = .ok (.goto (-41), 3) := by decide +kernel
theorem dX5_gain_87 : decode cX5_gain 87 = .ok (.bipush (-4), 2) := by decide +kernel
theorem dX5_gain_89 : decode cX5_gain 89 = .ok (.ireturn, 1) := by decide +kernel
theorem dX5_kind_0 : decode cX5_kind 0 = .ok (.aload_n 0, 1) := by decide +kernel
theorem dX5_kind_1 : decode cX5_kind 1 = .ok (.iload_n 1, 1) := by decide +kernel
theorem dX5_kind_2 : decode cX5_kind 2 = .ok (.invokevirtual 182, 3) := by decide +kernel
theorem dX5_kind_5 : decode cX5_kind 5 = .ok (.ifCond .eq 25, 3) := by decide +kernel
theorem dX5_kind_8 : decode cX5_kind 8 = .ok (.iload_n 2, 1) := by decide +kernel
theorem dX5_kind_9 : decode cX5_kind 9 = .ok (.i2l, 1) := by decide +kernel
theorem dX5_kind_10 : decode cX5_kind 10 = .ok (.lconst 0, 1) := by decide +kernel
theorem dX5_kind_11 : decode cX5_kind 11 = .ok (.ldc2_w 226, 3) := by decide +kernel
theorem dX5_kind_14 : decode cX5_kind 14 = .ok (.invokestatic 46, 3) := by decide +kernel
theorem dX5_kind_17 : decode cX5_kind 17 = .ok (.ifCond .eq 13, 3) := by decide +kernel
theorem dX5_kind_20 : decode cX5_kind 20 = .ok (.iload_n 3, 1) := by decide +kernel
theorem dX5_kind_21 : decode cX5_kind 21 = .ok (.i2l, 1) := by decide +kernel
theorem dX5_kind_22 : decode cX5_kind 22 = .ok (.lconst 0, 1) := by decide +kernel
theorem dX5_kind_23 : decode cX5_kind 23 = .ok (.lconst 1, 1) := by decide +kernel
theorem dX5_kind_24 : decode cX5_kind 24 = .ok (.invokestatic 46, 3) := by decide +kernel
theorem dX5_kind_27 : decode cX5_kind 27 = .ok (.ifCond .ne 5, 3) := by decide +kernel
theorem dX5_kind_30 : decode cX5_kind 30 = .ok (.iconst (-1), 1) := by decide +kernel
theorem dX5_kind_31 : decode cX5_kind 31 = .ok (.ireturn, 1) := by decide +kernel
theorem dX5_kind_32 : decode cX5_kind 32 = .ok (.ldc 237, 2) := by decide +kernel
theorem dX5_kind_34 : decode cX5_kind 34 = .ok (.istore 4, 2) := by decide +kernel
theorem dX5_kind_36 : decode cX5_kind 36 = .ok (.iconst 0, 1) := by decide +kernel
theorem dX5_kind_37 : decode cX5_kind 37 = .ok (.istore 5, 2) := by decide +kernel
theorem dX5_kind_39 : decode cX5_kind 39 = .ok (.iconst 0, 1) := by decide +kernel
theorem dX5_kind_40 : decode cX5_kind 40 = .ok (.istore 6, 2) := by decide +kernel
theorem dX5_kind_42 : decode cX5_kind 42 = .ok (.iload 6, 2) := by decide +kernel
theorem dX5_kind_44 : decode cX5_kind 44 = .ok (.iconst 4, 1) := by decide +kernel
theorem dX5_kind_45 : decode cX5_kind 45 = .ok (.if_icmp .ge 71, 3) := by decide +kernel
theorem dX5_kind_48 : decode cX5_kind 48 = .ok (.aload_n 0, 1) := by decide +kernel
theorem dX5_kind_49 : decode cX5_kind 49 = .ok (.iconst 0, 1) := by decide +kernel
theorem dX5_kind_50 : decode cX5_kind 50 = .ok (.sipush 275, 3) := by decide +kernel
theorem dX5_kind_53 : decode cX5_kind 53 = .ok (.invokevirtual 216, 3) := by decide +kernel
theorem dX5_kind_56 : decode cX5_kind 56 = .ok (.aload_n 0, 1) := by decide +kernel
theorem dX5_kind_57 : decode cX5_kind 57 = .ok (.getfield 7, 3) := by decide +kernel
theorem dX5_kind_60 : decode cX5_kind 60 = .ok (.sipush 275, 3) := by decide +kernel
theorem dX5_kind_63 : decode cX5_kind 63 = .ok (.iload_n 1, 1) := by decide +kernel
theorem dX5_kind_64 : decode cX5_kind 64 = .ok (.iadd, 1) := by decide +kernel
theorem dX5_kind_65 : decode cX5_kind 65 = .ok (.iload 6, 2) := by decide +kernel
theorem dX5_kind_67 : decode cX5_kind 67 = .ok (.iastore, 1) := by decide +kernel
theorem dX5_kind_68 : decode cX5_kind 68 = .ok (.aload_n 0, 1) := by decide +kernel
theorem dX5_kind_69 : decode cX5_kind 69 = .ok (.sipush 275, 3) := by decide +kernel
theorem dX5_kind_72 : decode cX5_kind 72 = .ok (.iload_n 2, 1) := by decide +kernel
theorem dX5_kind_73 : decode cX5_kind 73 = .ok (.invokevirtual 228, 3) := by decide +kernel
theorem dX5_kind_76 : decode cX5_kind 76 = .ok (.istore 7, 2) := by decide +kernel
theorem dX5_kind_78 : decode cX5_kind 78 = .ok (.iload 7, 2) := by decide +kernel
theorem dX5_kind_80 : decode cX5_kind 80 = .ok (.iload 4, 2) := by decide +kernel
theorem dX5_kind_82 : decode cX5_kind 82 = .ok (.if_icmp .ge 8, 3) := by decide +kernel
theorem dX5_kind_85 : decode cX5_kind 85 = .ok (.iload 6, 2) := by decide +kernel
theorem dX5_kind_87 : decode cX5_kind 87 = .ok (.goto 5, 3) := by decide +kernel
theorem dX5_kind_90 : decode cX5_kind 90 = .ok (.iload 5, 2) := by decide +kernel
theorem dX5_kind_92 : decode cX5_kind 92 = .ok (.istore 5, 2) := by decide +kernel
theorem dX5_kind_94 : decode cX5_kind 94 = .ok (.iload 7, 2) := by decide +kernel
theorem dX5_kind_96 : decode cX5_kind 96 = .ok (.iload 4, 2) := by decide +kernel
theorem dX5_kind_98 : decode cX5_kind 98 = .ok (.if_icmp .ge 8, 3) := by decide +kernel
theorem dX5_kind_101 : decode cX5_kind 101 = .ok (.iload 7, 2) := by decide +kernel
theorem dX5_kind_103 : decode cX5_kind 103 = .ok (.goto 5, 3) := by decide +kernel
theorem dX5_kind_106 : decode cX5_kind 106 = .ok (.iload 4, 2) := by decide +kernel
theorem dX5_kind_108 : decode cX5_kind 108 = .ok (.istore 4, 2) := by decide +kernel
theorem dX5_kind_110 : decode cX5_kind 110 = .ok (.iinc 6 1, 3) := by decide +kernel
theorem dX5_kind_113 : decode cX5_kind 113 = .ok (.goto (-71), 3) := by decide +kernel
theorem dX5_kind_116 : decode cX5_kind 116 = .ok (.iload_n 3, 1) := by decide +kernel
theorem dX5_kind_117 : decode cX5_kind 117 = .ok (.ifCond .ne 8, 3) := by decide +kernel
theorem dX5_kind_120 : decode cX5_kind 120 = .ok (.iload 5, 2) := by decide +kernel
theorem dX5_kind_122 : decode cX5_kind 122 = .ok (.goto 5, 3) := by decide +kernel
theorem dX5_kind_125 : decode cX5_kind 125 = .ok (.iload 4, 2) := by decide +kernel
theorem dX5_kind_127 : decode cX5_kind 127 = .ok (.ireturn, 1) := by decide +kernel
theorem dX5_lowest_0 : decode cX5_lowest 0 = .ok (.lload_n 0, 1) := by decide +kernel
theorem dX5_lowest_1 : decode cX5_lowest 1 = .ok (.lstore 5, 2) := by decide +kernel
theorem dX5_lowest_3 : decode cX5_lowest 3 = .ok (.lload_n 2, 1) := by decide +kernel
theorem dX5_lowest_4 : decode cX5_lowest 4 = .ok (.lstore 7, 2) := by decide +kernel
theorem dX5_lowest_6 : decode cX5_lowest 6 = .ok (.lload 7, 2) := by decide +kernel
theorem dX5_lowest_8 : decode cX5_lowest 8 = .ok (.lconst 0, 1) := by decide +kernel
theorem dX5_lowest_9 : decode cX5_lowest 9 = .ok (.lcmp, 1) := by decide +kernel
theorem dX5_lowest_10 : decode cX5_lowest 10 = .ok (.ifCond .eq 21, 3) := by decide +kernel
theorem dX5_lowest_13 : decode cX5_lowest 13 = .ok (.lload 5, 2) := by decide +kernel
theorem dX5_lowest_15 : decode cX5_lowest 15 = .ok (.lload 7, 2) := by decide +kernel
theorem dX5_lowest_17 : decode cX5_lowest 17 = .ok (.lrem, 1) := by decide +kernel
theorem dX5_lowest_18 : decode cX5_lowest 18 = .ok (.lstore 9, 2) := by decide +kernel
theorem dX5_lowest_20 : decode cX5_lowest 20 = .ok (.lload 7, 2) := by decide +kernel
theorem dX5_lowest_22 : decode cX5_lowest 22 = .ok (.lstore 5, 2) := by decide +kernel
theorem dX5_lowest_24 : decode cX5_lowest 24 = .ok (.lload 9, 2) := by decide +kernel
theorem dX5_lowest_26 : decode cX5_lowest 26 = .ok (.lstore 7, 2) := by decide +kernel
theorem dX5_lowest_28 : decode cX5_lowest 28 = .ok (.goto (-22), 3) := by decide +kernel
theorem dX5_lowest_31 : decode cX5_lowest 31 = .ok (.iload 4, 2) := by decide +kernel
theorem dX5_lowest_33 : decode cX5_lowest 33 = .ok (.ifCond .ne 7, 3) := by decide +kernel
theorem dX5_lowest_36 : decode cX5_lowest 36 = .ok (.lload_n 0, 1) := by decide +kernel
theorem dX5_lowest_37 : decode cX5_lowest 37 = .ok (.goto 4, 3) := by decide +kernel
theorem dX5_lowest_40 : decode cX5_lowest 40 = .ok (.lload_n 2, 1) := by decide +kernel
theorem dX5_lowest_41 : decode cX5_lowest 41 = .ok (.lload 5, 2) := by decide +kernel
theorem dX5_lowest_43 : decode cX5_lowest 43 = .ok (.ldiv, 1) := by decide +kernel
theorem dX5_lowest_44 : decode cX5_lowest 44 = .ok (.lreturn, 1) := by decide +kernel
theorem dX5_byFalse_0 : decode cX5_byFalse 0 = .ok (.lconst 0, 1) := by decide +kernel
theorem dX5_byFalse_1 : decode cX5_byFalse 1 = .ok (.lstore 6, 2) := by decide +kernel
theorem dX5_byFalse_3 : decode cX5_byFalse 3 = .ok (.lconst 1, 1) := by decide +kernel
theorem dX5_byFalse_4 : decode cX5_byFalse 4 = .ok (.lstore 8, 2) := by decide +kernel
theorem dX5_byFalse_6 : decode cX5_byFalse 6 = .ok (.iconst 0, 1) := by decide +kernel
theorem dX5_byFalse_7 : decode cX5_byFalse 7 = .ok (.istore 10, 2) := by decide +kernel
theorem dX5_byFalse_9 : decode cX5_byFalse 9 = .ok (.iload 10, 2) := by decide +kernel
theorem dX5_byFalse_11 : decode cX5_byFalse 11 = .ok (.aload_n 0, 1) := by decide +kernel
theorem dX5_byFalse_12 : decode cX5_byFalse 12 = .ok (.getfield 7, 3) := by decide +kernel
theorem dX5_byFalse_15 : decode cX5_byFalse 15 = .ok (.bipush 52, 2) := by decide +kernel
theorem dX5_byFalse_17 : decode cX5_byFalse 17 = .ok (.iaload, 1) := by decide +kernel
theorem dX5_byFalse_18 : decode cX5_byFalse 18 = .ok (.if_icmp .ge 17, 3) := by decide +kernel
theorem dX5_byFalse_21 : decode cX5_byFalse 21 = .ok (.lload 8, 2) := by decide +kernel
theorem dX5_byFalse_23 : decode cX5_byFalse 23 = .ok (.ldc2_w 238, 3) := by decide +kernel
theorem dX5_byFalse_26 : decode cX5_byFalse 26 = .ok (.lmul, 1) := by decide +kernel
theorem dX5_byFalse_27 : decode cX5_byFalse 27 = .ok (.lstore 8, 2) := by decide +kernel
theorem dX5_byFalse_29 : decode cX5_byFalse 29 = .ok (.iinc 10 1, 3) := by decide +kernel
theorem dX5_byFalse_32 : decode cX5_byFalse 32 = .ok (.goto (-23), 3) := by decide +kernel
theorem dX5_byFalse_35 : decode cX5_byFalse 35 = .ok (.iconst 0, 1) := by decide +kernel
theorem dX5_byFalse_36 : decode cX5_byFalse 36 = .ok (.istore 10, 2) := by decide +kernel
theorem dX5_byFalse_38 : decode cX5_byFalse 38 = .ok (.iload 10, 2) := by decide +kernel
theorem dX5_byFalse_40 : decode cX5_byFalse 40 = .ok (.iconst 1, 1) := by decide +kernel
theorem dX5_byFalse_41 : decode cX5_byFalse 41 = .ok (.aload_n 0, 1) := by decide +kernel
theorem dX5_byFalse_42 : decode cX5_byFalse 42 = .ok (.getfield 7, 3) := by decide +kernel
theorem dX5_byFalse_45 : decode cX5_byFalse 45 = .ok (.bipush 52, 2) := by decide +kernel
theorem dX5_byFalse_47 : decode cX5_byFalse 47 = .ok (.iaload, 1) := by decide +kernel
theorem dX5_byFalse_48 : decode cX5_byFalse 48 = .ok (.ishl, 1) := by decide +kernel
theorem dX5_byFalse_49 : decode cX5_byFalse 49 = .ok (.if_icmp .ge 107, 3) := by decide +kernel
theorem dX5_byFalse_52 : decode cX5_byFalse 52 = .ok (.lconst 1, 1) := by decide +kernel
theorem dX5_byFalse_53 : decode cX5_byFalse 53 = .ok (.lstore 11, 2) := by decide +kernel
theorem dX5_byFalse_55 : decode cX5_byFalse 55 = .ok (.iconst 0, 1) := by decide +kernel
theorem dX5_byFalse_56 : decode cX5_byFalse 56 = .ok (.istore 13, 2) := by decide +kernel
theorem dX5_byFalse_58 : decode cX5_byFalse 58 = .ok (.iload 13, 2) := by decide +kernel
theorem dX5_byFalse_60 : decode cX5_byFalse 60 = .ok (.aload_n 0, 1) := by decide +kernel
theorem dX5_byFalse_61 : decode cX5_byFalse 61 = .ok (.getfield 7, 3) := by decide +kernel
theorem dX5_byFalse_64 : decode cX5_byFalse 64 = .ok (.bipush 52, 2) := by decide +kernel
theorem dX5_byFalse_66 : decode cX5_byFalse 66 = .ok (.iaload, 1) := by decide +kernel
theorem dX5_byFalse_67 : decode cX5_byFalse 67 = .ok (.if_icmp .ge 35, 3) := by decide +kernel
theorem dX5_byFalse_70 : decode cX5_byFalse 70 = .ok (.lload 11, 2) := by decide +kernel
theorem dX5_byFalse_72 : decode cX5_byFalse 72 = .ok (.iload 10, 2) := by decide +kernel
theorem dX5_byFalse_74 : decode cX5_byFalse 74 = .ok (.iload 13, 2) := by decide +kernel
theorem dX5_byFalse_76 : decode cX5_byFalse 76 = .ok (.ishr, 1) := by decide +kernel
theorem dX5_byFalse_77 : decode cX5_byFalse 77 = .ok (.iconst 1, 1) := by decide +kernel
theorem dX5_byFalse_78 : decode cX5_byFalse 78 = .ok (.iand, 1) := by decide +kernel
theorem dX5_byFalse_79 : decode cX5_byFalse 79 = .ok (.iconst 1, 1) := by decide +kernel
theorem dX5_byFalse_80 : decode cX5_byFalse 80 = .ok (.if_icmp .ne 8, 3) := by decide +kernel
theorem dX5_byFalse_83 : decode cX5_byFalse 83 = .ok (.iload_n 1, 1) := by decide +kernel
theorem dX5_byFalse_84 : decode cX5_byFalse 84 = .ok (.i2l, 1) := by decide +kernel
theorem dX5_byFalse_85 : decode cX5_byFalse 85 = .ok (.goto 8, 3) := by decide +kernel
theorem dX5_byFalse_88 : decode cX5_byFalse 88 = .ok (.bipush 10, 2) := by decide +kernel
theorem dX5_byFalse_90 : decode cX5_byFalse 90 = .ok (.iload_n 1, 1) := by decide +kernel
theorem dX5_byFalse_91 : decode cX5_byFalse 91 = .ok (.isub, 1) := by decide +kernel
theorem dX5_byFalse_92 : decode cX5_byFalse 92 = .ok (.i2l, 1) := by decide +kernel
theorem dX5_byFalse_93 : decode cX5_byFalse 93 = .ok (.lmul, 1) := by decide +kernel
theorem dX5_byFalse_94 : decode cX5_byFalse 94 = .ok (.lstore 11, 2) := by decide +kernel
theorem dX5_byFalse_96 : decode cX5_byFalse 96 = .ok (.iinc 13 1, 3) := by decide +kernel
theorem dX5_byFalse_99 : decode cX5_byFalse 99 = .ok (.goto (-41), 3) := by decide +kernel
theorem dX5_byFalse_102 : decode cX5_byFalse 102 = .ok (.aload_n 0, 1) := by decide +kernel
theorem dX5_byFalse_103 : decode cX5_byFalse 103 = .ok (.iload 10, 2) := by decide +kernel
theorem dX5_byFalse_105 : decode cX5_byFalse 105 = .ok (.putfield 149, 3) := by decide +kernel
theorem dX5_byFalse_108 : decode cX5_byFalse 108 = .ok (.lload 6, 2) := by decide +kernel
theorem dX5_byFalse_110 : decode cX5_byFalse 110 = .ok (.lload 11, 2) := by decide +kernel
theorem dX5_byFalse_112 : decode cX5_byFalse 112 = .ok (.iload_n 2, 1) := by decide +kernel
theorem dX5_byFalse_113 : decode cX5_byFalse 113 = .ok (.bipush (-4), 2) := by decide +kernel
theorem dX5_byFalse_115 : decode cX5_byFalse 115 = .ok (.if_icmp .ne 13, 3) := by decide +kernel
theorem dX5_byFalse_118 : decode cX5_byFalse 118 = .ok (.aload_n 0, 1) := by decide +kernel
theorem dX5_byFalse_119 : decode cX5_byFalse 119 = .ok (.iconst 0, 1) := by decide +kernel
theorem dX5_byFalse_120 : decode cX5_byFalse 120 = .ok (.iload 4, 2) := by decide +kernel
theorem dX5_byFalse_122 : decode cX5_byFalse 122 = .ok (.invokevirtual 228, 3) := by decide +kernel
theorem dX5_byFalse_125 : decode cX5_byFalse 125 = .ok (.goto 20, 3) := by decide +kernel
theorem dX5_byFalse_128 : decode cX5_byFalse 128 = .ok (.aload_n 0, 1) := by decide +kernel
theorem dX5_byFalse_129 : decode cX5_byFalse 129 = .ok (.iconst 0, 1) := by decide +kernel
theorem dX5_byFalse_130 : decode cX5_byFalse 130 = .ok (.iload_n 2, 1) := by decide +kernel
theorem dX5_byFalse_131 : decode cX5_byFalse 131 = .ok (.iload 4, 2) := by decide +kernel
theorem dX5_byFalse_133 : decode cX5_byFalse 133 = .ok (.invokevirtual 156, 3) := by decide +kernel
theorem dX5_byFalse_136 : decode cX5_byFalse 136 = .ok (.iload_n 3, 1) := by decide +kernel
theorem dX5_byFalse_137 : decode cX5_byFalse 137 = .ok (.if_icmp .ne 7, 3) := by decide +kernel
theorem dX5_byFalse_140 : decode cX5_byFalse 140 = .ok (.iconst 1, 1) := by decide +kernel
theorem dX5_byFalse_141 : decode cX5_byFalse 141 = .ok (.goto 4, 3) := by decide +kernel
theorem dX5_byFalse_144 : decode cX5_byFalse 144 = .ok (.iconst 0, 1) := by decide +kernel
theorem dX5_byFalse_145 : decode cX5_byFalse 145 = .ok (.i2l, 1) := by decide +kernel
theorem dX5_byFalse_146 : decode cX5_byFalse 146 = .ok (.lmul, 1) := by decide +kernel
theorem dX5_byFalse_147 : decode cX5_byFalse 147 = .ok (.ladd, 1) := by decide +kernel
theorem dX5_byFalse_148 : decode cX5_byFalse 148 = .ok (.lstore 6, 2) := by decide +kernel
theorem dX5_byFalse_150 : decode cX5_byFalse 150 = .ok (.iinc 10 1, 3) := by decide +kernel
theorem dX5_byFalse_153 : decode cX5_byFalse 153 = .ok (.goto (-115), 3) := by decide +kernel
theorem dX5_byFalse_156 : decode cX5_byFalse 156 = .ok (.aload_n 0, 1) := by decide +kernel
theorem dX5_byFalse_157 : decode cX5_byFalse 157 = .ok (.iconst 0, 1) := by decide +kernel
theorem dX5_byFalse_158 : decode cX5_byFalse 158 = .ok (.putfield 149, 3) := by decide +kernel
theorem dX5_byFalse_161 : decode cX5_byFalse 161 = .ok (.lload 6, 2) := by decide +kernel
theorem dX5_byFalse_163 : decode cX5_byFalse 163 = .ok (.lload 8, 2) := by decide +kernel
theorem dX5_byFalse_165 : decode cX5_byFalse 165 = .ok (.iload 5, 2) := by decide +kernel
theorem dX5_byFalse_167 : decode cX5_byFalse 167 = .ok (.invokestatic 240, 3) := by decide +kernel
theorem dX5_byFalse_170 : decode cX5_byFalse 170 = .ok (.lreturn, 1) := by decide +kernel
theorem dX5_luck_0 : decode cX5_luck 0 = .ok (.iload_n 1, 1) := by decide +kernel
theorem dX5_luck_1 : decode cX5_luck 1 = .ok (.i2l, 1) := by decide +kernel
theorem dX5_luck_2 : decode cX5_luck 2 = .ok (.lconst 0, 1) := by decide +kernel
theorem dX5_luck_3 : decode cX5_luck 3 = .ok (.ldc2_w 238, 3) := by decide +kernel
theorem dX5_luck_6 : decode cX5_luck 6 = .ok (.invokestatic 46, 3) := by decide +kernel
theorem dX5_luck_9 : decode cX5_luck 9 = .ok (.ifCond .eq 51, 3) := by decide +kernel
theorem dX5_luck_12 : decode cX5_luck 12 = .ok (.aload_n 0, 1) := by decide +kernel
theorem dX5_luck_13 : decode cX5_luck 13 = .ok (.iload_n 2, 1) := by decide +kernel
theorem dX5_luck_14 : decode cX5_luck 14 = .ok (.invokevirtual 182, 3) := by decide +kernel
theorem dX5_luck_17 : decode cX5_luck 17 = .ok (.ifCond .eq 43, 3) := by decide +kernel
theorem dX5_luck_20 : decode cX5_luck 20 = .ok (.iload_n 3, 1) := by decide +kernel
theorem dX5_luck_21 : decode cX5_luck 21 = .ok (.invokestatic 194, 3) := by decide +kernel
theorem dX5_luck_24 : decode cX5_luck 24 = .ok (.ifCond .eq 36, 3) := by decide +kernel
theorem dX5_luck_27 : decode cX5_luck 27 = .ok (.iload 4, 2) := by decide +kernel
theorem dX5_luck_29 : decode cX5_luck 29 = .ok (.invokestatic 197, 3) := by decide +kernel
theorem dX5_luck_32 : decode cX5_luck 32 = .ok (.ifCond .eq 28, 3) := by decide +kernel
theorem dX5_luck_35 : decode cX5_luck 35 = .ok (.iload 5, 2) := by decide +kernel
theorem dX5_luck_37 : decode cX5_luck 37 = .ok (.i2l, 1) := by decide +kernel
theorem dX5_luck_38 : decode cX5_luck 38 = .ok (.lconst 0, 1) := by decide +kernel
theorem dX5_luck_39 : decode cX5_luck 39 = .ok (.lconst 1, 1) := by decide +kernel
theorem dX5_luck_40 : decode cX5_luck 40 = .ok (.invokestatic 46, 3) := by decide +kernel
theorem dX5_luck_43 : decode cX5_luck 43 = .ok (.ifCond .eq 17, 3) := by decide +kernel
theorem dX5_luck_46 : decode cX5_luck 46 = .ok (.aload_n 0, 1) := by decide +kernel
theorem dX5_luck_47 : decode cX5_luck 47 = .ok (.iload_n 1, 1) := by decide +kernel
theorem dX5_luck_48 : decode cX5_luck 48 = .ok (.iload_n 2, 1) := by decide +kernel
theorem dX5_luck_49 : decode cX5_luck 49 = .ok (.iload_n 3, 1) := by decide +kernel
theorem dX5_luck_50 : decode cX5_luck 50 = .ok (.iload 4, 2) := by decide +kernel
theorem dX5_luck_52 : decode cX5_luck 52 = .ok (.iload 5, 2) := by decide +kernel
theorem dX5_luck_54 : decode cX5_luck 54 = .ok (.invokevirtual 244, 3) := by decide +kernel
theorem dX5_luck_57 : decode cX5_luck 57 = .ok (.goto 6, 3) := by decide +kernel
theorem dX5_luck_60 : decode cX5_luck 60 = .ok (.ldc2_w 248, 3) := by decide +kernel
theorem dX5_luck_63 : decode cX5_luck 63 = .ok (.lreturn, 1) := by decide +kernel
theorem dX5_mean_0 : decode cX5_mean 0 = .ok (.iload_n 1, 1) := by decide +kernel
theorem dX5_mean_1 : decode cX5_mean 1 = .ok (.i2l, 1) := by decide +kernel
theorem dX5_mean_2 : decode cX5_mean 2 = .ok (.lconst 0, 1) := by decide +kernel
theorem dX5_mean_3 : decode cX5_mean 3 = .ok (.ldc2_w 238, 3) := by decide +kernel
theorem dX5_mean_6 : decode cX5_mean 6 = .ok (.invokestatic 46, 3) := by decide +kernel
theorem dX5_mean_9 : decode cX5_mean 9 = .ok (.ifCond .eq 38, 3) := by decide +kernel
theorem dX5_mean_12 : decode cX5_mean 12 = .ok (.iload_n 2, 1) := by decide +kernel
theorem dX5_mean_13 : decode cX5_mean 13 = .ok (.i2l, 1) := by decide +kernel
theorem dX5_mean_14 : decode cX5_mean 14 = .ok (.lconst 0, 1) := by decide +kernel
theorem dX5_mean_15 : decode cX5_mean 15 = .ok (.ldc2_w 250, 3) := by decide +kernel
theorem dX5_mean_18 : decode cX5_mean 18 = .ok (.invokestatic 46, 3) := by decide +kernel
theorem dX5_mean_21 : decode cX5_mean 21 = .ok (.ifCond .eq 26, 3) := by decide +kernel
theorem dX5_mean_24 : decode cX5_mean 24 = .ok (.iload_n 3, 1) := by decide +kernel
theorem dX5_mean_25 : decode cX5_mean 25 = .ok (.i2l, 1) := by decide +kernel
theorem dX5_mean_26 : decode cX5_mean 26 = .ok (.lconst 0, 1) := by decide +kernel
theorem dX5_mean_27 : decode cX5_mean 27 = .ok (.lconst 1, 1) := by decide +kernel
theorem dX5_mean_28 : decode cX5_mean 28 = .ok (.invokestatic 46, 3) := by decide +kernel
theorem dX5_mean_31 : decode cX5_mean 31 = .ok (.ifCond .eq 16, 3) := by decide +kernel
theorem dX5_mean_34 : decode cX5_mean 34 = .ok (.aload_n 0, 1) := by decide +kernel
theorem dX5_mean_35 : decode cX5_mean 35 = .ok (.iload_n 1, 1) := by decide +kernel
theorem dX5_mean_36 : decode cX5_mean 36 = .ok (.bipush (-4), 2) := by decide +kernel
theorem dX5_mean_38 : decode cX5_mean 38 = .ok (.iconst 0, 1) := by decide +kernel
theorem dX5_mean_39 : decode cX5_mean 39 = .ok (.iload_n 2, 1) := by decide +kernel
theorem dX5_mean_40 : decode cX5_mean 40 = .ok (.iload_n 3, 1) := by decide +kernel
theorem dX5_mean_41 : decode cX5_mean 41 = .ok (.invokevirtual 244, 3) := by decide +kernel
theorem dX5_mean_44 : decode cX5_mean 44 = .ok (.goto 6, 3) := by decide +kernel
theorem dX5_mean_47 : decode cX5_mean 47 = .ok (.ldc2_w 248, 3) := by decide +kernel
theorem dX5_mean_50 : decode cX5_mean 50 = .ok (.lreturn, 1) := by decide +kernel
theorem dX5_see_0 : decode cX5_see 0 = .ok (.iload_n 1, 1) := by decide +kernel
theorem dX5_see_1 : decode cX5_see 1 = .ok (.i2l, 1) := by decide +kernel
theorem dX5_see_2 : decode cX5_see 2 = .ok (.lconst 0, 1) := by decide +kernel
theorem dX5_see_3 : decode cX5_see 3 = .ok (.ldc2_w 250, 3) := by decide +kernel
theorem dX5_see_6 : decode cX5_see 6 = .ok (.invokestatic 46, 3) := by decide +kernel
theorem dX5_see_9 : decode cX5_see 9 = .ok (.ifCond .eq 23, 3) := by decide +kernel
theorem dX5_see_12 : decode cX5_see 12 = .ok (.aload_n 0, 1) := by decide +kernel
theorem dX5_see_13 : decode cX5_see 13 = .ok (.iload_n 2, 1) := by decide +kernel
theorem dX5_see_14 : decode cX5_see 14 = .ok (.invokevirtual 182, 3) := by decide +kernel
theorem dX5_see_17 : decode cX5_see 17 = .ok (.ifCond .eq 15, 3) := by decide +kernel
theorem dX5_see_20 : decode cX5_see 20 = .ok (.iload_n 3, 1) := by decide +kernel
theorem dX5_see_21 : decode cX5_see 21 = .ok (.i2l, 1) := by decide +kernel
theorem dX5_see_22 : decode cX5_see 22 = .ok (.lconst 0, 1) := by decide +kernel
theorem dX5_see_23 : decode cX5_see 23 = .ok (.ldc2_w 200, 3) := by decide +kernel
theorem dX5_see_26 : decode cX5_see 26 = .ok (.invokestatic 46, 3) := by decide +kernel
theorem dX5_see_29 : decode cX5_see 29 = .ok (.ifCond .ne 5, 3) := by decide +kernel
theorem dX5_see_32 : decode cX5_see 32 = .ok (.iconst (-1), 1) := by decide +kernel
theorem dX5_see_33 : decode cX5_see 33 = .ok (.ireturn, 1) := by decide +kernel
theorem dX5_see_34 : decode cX5_see 34 = .ok (.aload_n 0, 1) := by decide +kernel
theorem dX5_see_35 : decode cX5_see 35 = .ok (.getfield 134, 3) := by decide +kernel
theorem dX5_see_38 : decode cX5_see 38 = .ok (.bipush 6, 2) := by decide +kernel
theorem dX5_see_40 : decode cX5_see 40 = .ok (.if_icmp .ne 6, 3) := by decide +kernel
theorem dX5_see_43 : decode cX5_see 43 = .ok (.bipush (-3), 2) := by decide +kernel
theorem dX5_see_45 : decode cX5_see 45 = .ok (.ireturn, 1) := by decide +kernel
theorem dX5_see_46 : decode cX5_see 46 = .ok (.aload_n 0, 1) := by decide +kernel
theorem dX5_see_47 : decode cX5_see 47 = .ok (.getfield 25, 3) := by decide +kernel
theorem dX5_see_50 : decode cX5_see 50 = .ok (.iconst 3, 1) := by decide +kernel
theorem dX5_see_51 : decode cX5_see 51 = .ok (.aload_n 0, 1) := by decide +kernel
theorem dX5_see_52 : decode cX5_see 52 = .ok (.getfield 134, 3) := by decide +kernel
theorem dX5_see_55 : decode cX5_see 55 = .ok (.imul, 1) := by decide +kernel
theorem dX5_see_56 : decode cX5_see 56 = .ok (.iload_n 1, 1) := by decide +kernel
theorem dX5_see_57 : decode cX5_see 57 = .ok (.iastore, 1) := by decide +kernel
theorem dX5_see_58 : decode cX5_see 58 = .ok (.aload_n 0, 1) := by decide +kernel
theorem dX5_see_59 : decode cX5_see 59 = .ok (.getfield 25, 3) := by decide +kernel
theorem dX5_see_62 : decode cX5_see 62 = .ok (.iconst 3, 1) := by decide +kernel
theorem dX5_see_63 : decode cX5_see 63 = .ok (.aload_n 0, 1) := by decide +kernel
theorem dX5_see_64 : decode cX5_see 64 = .ok (.getfield 134, 3) := by decide +kernel
theorem dX5_see_67 : decode cX5_see 67 = .ok (.imul, 1) := by decide +kernel
theorem dX5_see_68 : decode cX5_see 68 = .ok (.iconst 1, 1) := by decide +kernel
theorem dX5_see_69 : decode cX5_see 69 = .ok (.iadd, 1) := by decide +kernel
theorem dX5_see_70 : decode cX5_see 70 = .ok (.iload_n 2, 1) := by decide +kernel
theorem dX5_see_71 : decode cX5_see 71 = .ok (.iastore, 1) := by decide +kernel
theorem dX5_see_72 : decode cX5_see 72 = .ok (.aload_n 0, 1) := by decide +kernel
theorem dX5_see_73 : decode cX5_see 73 = .ok (.getfield 25, 3) := by decide +kernel
theorem dX5_see_76 : decode cX5_see 76 = .ok (.iconst 3, 1) := by decide +kernel
theorem dX5_see_77 : decode cX5_see 77 = .ok (.aload_n 0, 1) := by decide +kernel
theorem dX5_see_78 : decode cX5_see 78 = .ok (.getfield 134, 3) := by decide +kernel
theorem dX5_see_81 : decode cX5_see 81 = .ok (.imul, 1) := by decide +kernel
theorem dX5_see_82 : decode cX5_see 82 = .ok (.iconst 2, 1) := by decide +kernel
theorem dX5_see_83 : decode cX5_see 83 = .ok (.iadd, 1) := by decide +kernel
theorem dX5_see_84 : decode cX5_see 84 = .ok (.iload_n 3, 1) := by decide +kernel
theorem dX5_see_85 : decode cX5_see 85 = .ok (.iastore, 1) := by decide +kernel
theorem dX5_see_86 : decode cX5_see 86 = .ok (.aload_n 0, 1) := by decide +kernel
theorem dX5_see_87 : decode cX5_see 87 = .ok (.dup, 1) := by decide +kernel
theorem dX5_see_88 : decode cX5_see 88 = .ok (.getfield 134, 3) := by decide +kernel
theorem dX5_see_91 : decode cX5_see 91 = .ok (.iconst 1, 1) := by decide +kernel
theorem dX5_see_92 : decode cX5_see 92 = .ok (.iadd, 1) := by decide +kernel
theorem dX5_see_93 : decode cX5_see 93 = .ok (.putfield 134, 3) := by decide +kernel
theorem dX5_see_96 : decode cX5_see 96 = .ok (.aload_n 0, 1) := by decide +kernel
theorem dX5_see_97 : decode cX5_see 97 = .ok (.getfield 134, 3) := by decide +kernel
theorem dX5_see_100 : decode cX5_see 100 = .ok (.ireturn, 1) := by decide +kernel
theorem dX5_forget_0 : decode cX5_forget 0 = .ok (.iload_n 1, 1) := by decide +kernel
theorem dX5_forget_1 : decode cX5_forget 1 = .ok (.i2l, 1) := by decide +kernel
theorem dX5_forget_2 : decode cX5_forget 2 = .ok (.lconst 0, 1) := by decide +kernel
theorem dX5_forget_3 : decode cX5_forget 3 = .ok (.aload_n 0, 1) := by decide +kernel
theorem dX5_forget_4 : decode cX5_forget 4 = .ok (.getfield 134, 3) := by decide +kernel
theorem dX5_forget_7 : decode cX5_forget 7 = .ok (.i2l, 1) := by decide +kernel
theorem dX5_forget_8 : decode cX5_forget 8 = .ok (.invokestatic 46, 3) := by decide +kernel
theorem dX5_forget_11 : decode cX5_forget 11 = .ok (.ifCond .ne 5, 3) := by decide +kernel
theorem dX5_forget_14 : decode cX5_forget 14 = .ok (.iconst (-1), 1) := by decide +kernel
theorem dX5_forget_15 : decode cX5_forget 15 = .ok (.ireturn, 1) := by decide +kernel
theorem dX5_forget_16 : decode cX5_forget 16 = .ok (.aload_n 0, 1) := by decide +kernel
theorem dX5_forget_17 : decode cX5_forget 17 = .ok (.getfield 134, 3) := by decide +kernel
theorem dX5_forget_20 : decode cX5_forget 20 = .ok (.istore_n 2, 1) := by decide +kernel
theorem dX5_forget_21 : decode cX5_forget 21 = .ok (.aload_n 0, 1) := by decide +kernel
theorem dX5_forget_22 : decode cX5_forget 22 = .ok (.iload_n 1, 1) := by decide +kernel
theorem dX5_forget_23 : decode cX5_forget 23 = .ok (.putfield 134, 3) := by decide +kernel
theorem dX5_forget_26 : decode cX5_forget 26 = .ok (.iload_n 2, 1) := by decide +kernel
theorem dX5_forget_27 : decode cX5_forget 27 = .ok (.ireturn, 1) := by decide +kernel
theorem dX5_isAsSeen_0 : decode cX5_isAsSeen 0 = .ok (.aload_n 0, 1) := by decide +kernel
theorem dX5_isAsSeen_1 : decode cX5_isAsSeen 1 = .ok (.iconst 0, 1) := by decide +kernel
theorem dX5_isAsSeen_2 : decode cX5_isAsSeen 2 = .ok (.sipush 220, 3) := by decide +kernel
theorem dX5_isAsSeen_5 : decode cX5_isAsSeen 5 = .ok (.invokevirtual 216, 3) := by decide +kernel
theorem dX5_isAsSeen_8 : decode cX5_isAsSeen 8 = .ok (.iconst 1, 1) := by decide +kernel
theorem dX5_isAsSeen_9 : decode cX5_isAsSeen 9 = .ok (.istore_n 2, 1) := by decide +kernel
theorem dX5_isAsSeen_10 : decode cX5_isAsSeen 10 = .ok (.iconst 0, 1) := by decide +kernel
theorem dX5_isAsSeen_11 : decode cX5_isAsSeen 11 = .ok (.istore_n 3, 1) := by decide +kernel
theorem dX5_isAsSeen_12 : decode cX5_isAsSeen 12 = .ok (.iload_n 3, 1) := by decide +kernel
theorem dX5_isAsSeen_13 : decode cX5_isAsSeen 13 = .ok (.bipush 20, 2) := by decide +kernel
theorem dX5_isAsSeen_15 : decode cX5_isAsSeen 15 = .ok (.if_icmp .gt 136, 3) := by decide +kernel
theorem dX5_isAsSeen_18 : decode cX5_isAsSeen 18 = .ok (.iconst 0, 1) := by decide +kernel
theorem dX5_isAsSeen_19 : decode cX5_isAsSeen 19 = .ok (.istore 4, 2) := by decide +kernel
theorem dX5_isAsSeen_21 : decode cX5_isAsSeen 21 = .ok (.iload 4, 2) := by decide +kernel
theorem dX5_isAsSeen_23 : decode cX5_isAsSeen 23 = .ok (.aload_n 0, 1) := by decide +kernel
theorem dX5_isAsSeen_24 : decode cX5_isAsSeen 24 = .ok (.getfield 131, 3) := by decide +kernel
theorem dX5_isAsSeen_27 : decode cX5_isAsSeen 27 = .ok (.if_icmp .ge 36, 3) := by decide +kernel
theorem dX5_isAsSeen_30 : decode cX5_isAsSeen 30 = .ok (.aload_n 0, 1) := by decide +kernel
theorem dX5_isAsSeen_31 : decode cX5_isAsSeen 31 = .ok (.getfield 28, 3) := by decide +kernel
theorem dX5_isAsSeen_34 : decode cX5_isAsSeen 34 = .ok (.bipush 105, 2) := by decide +kernel
theorem dX5_isAsSeen_36 : decode cX5_isAsSeen 36 = .ok (.iload_n 1, 1) := by decide +kernel
theorem dX5_isAsSeen_37 : decode cX5_isAsSeen 37 = .ok (.imul, 1) := by decide +kernel
theorem dX5_isAsSeen_38 : decode cX5_isAsSeen 38 = .ok (.iconst 5, 1) := by decide +kernel
theorem dX5_isAsSeen_39 : decode cX5_isAsSeen 39 = .ok (.iload_n 3, 1) := by decide +kernel
theorem dX5_isAsSeen_40 : decode cX5_isAsSeen 40 = .ok (.imul, 1) := by decide +kernel
theorem dX5_isAsSeen_41 : decode cX5_isAsSeen 41 = .ok (.iadd, 1) := by decide +kernel
theorem dX5_isAsSeen_42 : decode cX5_isAsSeen 42 = .ok (.iload 4, 2) := by decide +kernel
theorem dX5_isAsSeen_44 : decode cX5_isAsSeen 44 = .ok (.iadd, 1) := by decide +kernel
theorem dX5_isAsSeen_45 : decode cX5_isAsSeen 45 = .ok (.aload_n 0, 1) := by decide +kernel
theorem dX5_isAsSeen_46 : decode cX5_isAsSeen 46 = .ok (.getfield 7, 3) := by decide +kernel
theorem dX5_isAsSeen_49 : decode cX5_isAsSeen 49 = .ok (.sipush 225, 3) := by decide +kernel
theorem dX5_isAsSeen_52 : decode cX5_isAsSeen 52 = .ok (.iload 4, 2) := by decide +kernel
theorem dX5_isAsSeen_54 : decode cX5_isAsSeen 54 = .ok (.iadd, 1) := by decide +kernel
theorem dX5_isAsSeen_55 : decode cX5_isAsSeen 55 = .ok (.iaload, 1) := by decide +kernel
theorem dX5_isAsSeen_56 : decode cX5_isAsSeen 56 = .ok (.iastore, 1) := by decide +kernel
theorem dX5_isAsSeen_57 : decode cX5_isAsSeen 57 = .ok (.iinc 4 1, 3) := by decide +kernel
theorem dX5_isAsSeen_60 : decode cX5_isAsSeen 60 = .ok (.goto (-39), 3) := by decide +kernel
theorem dX5_isAsSeen_63 : decode cX5_isAsSeen 63 = .ok (.iconst 0, 1) := by decide +kernel
theorem dX5_isAsSeen_64 : decode cX5_isAsSeen 64 = .ok (.istore 4, 2) := by decide +kernel
theorem dX5_isAsSeen_66 : decode cX5_isAsSeen 66 = .ok (.iload 4, 2) := by decide +kernel
theorem dX5_isAsSeen_68 : decode cX5_isAsSeen 68 = .ok (.aload_n 0, 1) := by decide +kernel
theorem dX5_isAsSeen_69 : decode cX5_isAsSeen 69 = .ok (.getfield 134, 3) := by decide +kernel
theorem dX5_isAsSeen_72 : decode cX5_isAsSeen 72 = .ok (.if_icmp .ge 66, 3) := by decide +kernel
theorem dX5_isAsSeen_75 : decode cX5_isAsSeen 75 = .ok (.iload_n 2, 1) := by decide +kernel
theorem dX5_isAsSeen_76 : decode cX5_isAsSeen 76 = .ok (.ifCond .eq 54, 3) := by decide +kernel
theorem dX5_isAsSeen_79 : decode cX5_isAsSeen 79 = .ok (.aload_n 0, 1) := by decide +kernel
theorem dX5_isAsSeen_80 : decode cX5_isAsSeen 80 = .ok (.getfield 25, 3) := by decide +kernel
theorem dX5_isAsSeen_83 : decode cX5_isAsSeen 83 = .ok (.iconst 3, 1) := by decide +kernel
theorem dX5_isAsSeen_84 : decode cX5_isAsSeen 84 = .ok (.iload 4, 2) := by decide +kernel
theorem dX5_isAsSeen_86 : decode cX5_isAsSeen 86 = .ok (.imul, 1) := by decide +kernel
theorem dX5_isAsSeen_87 : decode cX5_isAsSeen 87 = .ok (.iaload, 1) := by decide +kernel
theorem dX5_isAsSeen_88 : decode cX5_isAsSeen 88 = .ok (.iload_n 3, 1) := by decide +kernel
theorem dX5_isAsSeen_89 : decode cX5_isAsSeen 89 = .ok (.if_icmp .ne 37, 3) := by decide +kernel
theorem dX5_isAsSeen_92 : decode cX5_isAsSeen 92 = .ok (.aload_n 0, 1) := by decide +kernel
theorem dX5_isAsSeen_93 : decode cX5_isAsSeen 93 = .ok (.getfield 7, 3) := by decide +kernel
theorem dX5_isAsSeen_96 : decode cX5_isAsSeen 96 = .ok (.sipush 225, 3) := by decide +kernel
theorem dX5_isAsSeen_99 : decode cX5_isAsSeen 99 = .ok (.aload_n 0, 1) := by decide +kernel
theorem dX5_isAsSeen_100 : decode cX5_isAsSeen 100 = .ok (.getfield 25, 3) := by decide +kernel
theorem dX5_isAsSeen_103 : decode cX5_isAsSeen 103 = .ok (.iconst 3, 1) := by decide +kernel
theorem dX5_isAsSeen_104 : decode cX5_isAsSeen 104 = .ok (.iload 4, 2) := by decide +kernel
theorem dX5_isAsSeen_106 : decode cX5_isAsSeen 106 = .ok (.imul, 1) := by decide +kernel
theorem dX5_isAsSeen_107 : decode cX5_isAsSeen 107 = .ok (.iconst 1, 1) := by decide +kernel
theorem dX5_isAsSeen_108 : decode cX5_isAsSeen 108 = .ok (.iadd, 1) := by decide +kernel
theorem dX5_isAsSeen_109 : decode cX5_isAsSeen 109 = .ok (.iaload, 1) := by decide +kernel
theorem dX5_isAsSeen_110 : decode cX5_isAsSeen 110 = .ok (.iadd, 1) := by decide +kernel
theorem dX5_isAsSeen_111 : decode cX5_isAsSeen 111 = .ok (.iaload, 1) := by decide +kernel
theorem dX5_isAsSeen_112 : decode cX5_isAsSeen 112 = .ok (.aload_n 0, 1) := by decide +kernel
theorem dX5_isAsSeen_113 : decode cX5_isAsSeen 113 = .ok (.getfield 25, 3) := by decide +kernel
theorem dX5_isAsSeen_116 : decode cX5_isAsSeen 116 = .ok (.iconst 3, 1) := by decide +kernel
theorem dX5_isAsSeen_117 : decode cX5_isAsSeen 117 = .ok (.iload 4, 2) := by decide +kernel
theorem dX5_isAsSeen_119 : decode cX5_isAsSeen 119 = .ok (.imul, 1) := by decide +kernel
theorem dX5_isAsSeen_120 : decode cX5_isAsSeen 120 = .ok (.iconst 2, 1) := by decide +kernel
theorem dX5_isAsSeen_121 : decode cX5_isAsSeen 121 = .ok (.iadd, 1) := by decide +kernel
theorem dX5_isAsSeen_122 : decode cX5_isAsSeen 122 = .ok (.iaload, 1) := by decide +kernel
theorem dX5_isAsSeen_123 : decode cX5_isAsSeen 123 = .ok (.if_icmp .ne 7, 3) := by decide +kernel
theorem dX5_isAsSeen_126 : decode cX5_isAsSeen 126 = .ok (.iconst 1, 1) := by decide +kernel
theorem dX5_isAsSeen_127 : decode cX5_isAsSeen 127 = .ok (.goto 4, 3) := by decide +kernel
theorem dX5_isAsSeen_130 : decode cX5_isAsSeen 130 = .ok (.iconst 0, 1) := by decide +kernel
theorem dX5_isAsSeen_131 : decode cX5_isAsSeen 131 = .ok (.istore_n 2, 1) := by decide +kernel
theorem dX5_isAsSeen_132 : decode cX5_isAsSeen 132 = .ok (.iinc 4 1, 3) := by decide +kernel
theorem dX5_isAsSeen_135 : decode cX5_isAsSeen 135 = .ok (.goto (-69), 3) := by decide +kernel
theorem dX5_isAsSeen_138 : decode cX5_isAsSeen 138 = .ok (.aload_n 0, 1) := by decide +kernel
theorem dX5_isAsSeen_139 : decode cX5_isAsSeen 139 = .ok (.sipush 220, 3) := by decide +kernel
theorem dX5_isAsSeen_142 : decode cX5_isAsSeen 142 = .ok (.invokevirtual 213, 3) := by decide +kernel
theorem dX5_isAsSeen_145 : decode cX5_isAsSeen 145 = .ok (.iinc 3 1, 3) := by decide +kernel
theorem dX5_isAsSeen_148 : decode cX5_isAsSeen 148 = .ok (.goto (-136), 3) := by decide +kernel
theorem dX5_isAsSeen_151 : decode cX5_isAsSeen 151 = .ok (.iload_n 2, 1) := by decide +kernel
theorem dX5_isAsSeen_152 : decode cX5_isAsSeen 152 = .ok (.ireturn, 1) := by decide +kernel
theorem dX5_kinds_0 : decode cX5_kinds 0 = .ok (.aload_n 0, 1) := by decide +kernel
theorem dX5_kinds_1 : decode cX5_kinds 1 = .ok (.iload_n 1, 1) := by decide +kernel
theorem dX5_kinds_2 : decode cX5_kinds 2 = .ok (.invokevirtual 182, 3) := by decide +kernel
theorem dX5_kinds_5 : decode cX5_kinds 5 = .ok (.ifCond .ne 5, 3) := by decide +kernel
theorem dX5_kinds_8 : decode cX5_kinds 8 = .ok (.iconst (-1), 1) := by decide +kernel
theorem dX5_kinds_9 : decode cX5_kinds 9 = .ok (.ireturn, 1) := by decide +kernel
theorem dX5_kinds_10 : decode cX5_kinds 10 = .ok (.aload_n 0, 1) := by decide +kernel
theorem dX5_kinds_11 : decode cX5_kinds 11 = .ok (.getfield 7, 3) := by decide +kernel
theorem dX5_kinds_14 : decode cX5_kinds 14 = .ok (.iload_n 1, 1) := by decide +kernel
theorem dX5_kinds_15 : decode cX5_kinds 15 = .ok (.iaload, 1) := by decide +kernel
theorem dX5_kinds_16 : decode cX5_kinds 16 = .ok (.istore_n 2, 1) := by decide +kernel
theorem dX5_kinds_17 : decode cX5_kinds 17 = .ok (.iconst 0, 1) := by decide +kernel
theorem dX5_kinds_18 : decode cX5_kinds 18 = .ok (.istore_n 3, 1) := by decide +kernel
theorem dX5_kinds_19 : decode cX5_kinds 19 = .ok (.iconst 0, 1) := by decide +kernel
theorem dX5_kinds_20 : decode cX5_kinds 20 = .ok (.istore 4, 2) := by decide +kernel
theorem dX5_kinds_22 : decode cX5_kinds 22 = .ok (.iload 4, 2) := by decide +kernel
theorem dX5_kinds_24 : decode cX5_kinds 24 = .ok (.iconst 4, 1) := by decide +kernel
theorem dX5_kinds_25 : decode cX5_kinds 25 = .ok (.if_icmp .ge 36, 3) := by decide +kernel
theorem dX5_kinds_28 : decode cX5_kinds 28 = .ok (.aload_n 0, 1) := by decide +kernel
theorem dX5_kinds_29 : decode cX5_kinds 29 = .ok (.getfield 7, 3) := by decide +kernel
theorem dX5_kinds_32 : decode cX5_kinds 32 = .ok (.iload_n 1, 1) := by decide +kernel
theorem dX5_kinds_33 : decode cX5_kinds 33 = .ok (.iload 4, 2) := by decide +kernel
theorem dX5_kinds_35 : decode cX5_kinds 35 = .ok (.iastore, 1) := by decide +kernel
theorem dX5_kinds_36 : decode cX5_kinds 36 = .ok (.iload_n 3, 1) := by decide +kernel
theorem dX5_kinds_37 : decode cX5_kinds 37 = .ok (.aload_n 0, 1) := by decide +kernel
theorem dX5_kinds_38 : decode cX5_kinds 38 = .ok (.iconst 0, 1) := by decide +kernel
theorem dX5_kinds_39 : decode cX5_kinds 39 = .ok (.invokevirtual 252, 3) := by decide +kernel
theorem dX5_kinds_42 : decode cX5_kinds 42 = .ok (.ifCond .eq 10, 3) := by decide +kernel
theorem dX5_kinds_45 : decode cX5_kinds 45 = .ok (.iconst 1, 1) := by decide +kernel
theorem dX5_kinds_46 : decode cX5_kinds 46 = .ok (.iload 4, 2) := by decide +kernel
theorem dX5_kinds_48 : decode cX5_kinds 48 = .ok (.ishl, 1) := by decide +kernel
theorem dX5_kinds_49 : decode cX5_kinds 49 = .ok (.goto 4, 3) := by decide +kernel
theorem dX5_kinds_52 : decode cX5_kinds 52 = .ok (.iconst 0, 1) := by decide +kernel
theorem dX5_kinds_53 : decode cX5_kinds 53 = .ok (.ior, 1) := by decide +kernel
theorem dX5_kinds_54 : decode cX5_kinds 54 = .ok (.istore_n 3, 1) := by decide +kernel
theorem dX5_kinds_55 : decode cX5_kinds 55 = .ok (.iinc 4 1, 3) := by decide +kernel
theorem dX5_kinds_58 : decode cX5_kinds 58 = .ok (.goto (-36), 3) := by decide +kernel
theorem dX5_kinds_61 : decode cX5_kinds 61 = .ok (.aload_n 0, 1) := by decide +kernel
theorem dX5_kinds_62 : decode cX5_kinds 62 = .ok (.getfield 7, 3) := by decide +kernel
theorem dX5_kinds_65 : decode cX5_kinds 65 = .ok (.iload_n 1, 1) := by decide +kernel
theorem dX5_kinds_66 : decode cX5_kinds 66 = .ok (.iload_n 2, 1) := by decide +kernel
theorem dX5_kinds_67 : decode cX5_kinds 67 = .ok (.iastore, 1) := by decide +kernel
theorem dX5_kinds_68 : decode cX5_kinds 68 = .ok (.iload_n 3, 1) := by decide +kernel
theorem dX5_kinds_69 : decode cX5_kinds 69 = .ok (.ireturn, 1) := by decide +kernel
theorem dX5_upsOf_0 : decode cX5_upsOf 0 = .ok (.aload_n 0, 1) := by decide +kernel
theorem dX5_upsOf_1 : decode cX5_upsOf 1 = .ok (.getfield 7, 3) := by decide +kernel
theorem dX5_upsOf_4 : decode cX5_upsOf 4 = .ok (.iconst 5, 1) := by decide +kernel
theorem dX5_upsOf_5 : decode cX5_upsOf 5 = .ok (.iload_n 1, 1) := by decide +kernel
theorem dX5_upsOf_6 : decode cX5_upsOf 6 = .ok (.iadd, 1) := by decide +kernel
theorem dX5_upsOf_7 : decode cX5_upsOf 7 = .ok (.iaload, 1) := by decide +kernel
theorem dX5_upsOf_8 : decode cX5_upsOf 8 = .ok (.istore_n 2, 1) := by decide +kernel
theorem dX5_upsOf_9 : decode cX5_upsOf 9 = .ok (.iconst 0, 1) := by decide +kernel
theorem dX5_upsOf_10 : decode cX5_upsOf 10 = .ok (.istore_n 3, 1) := by decide +kernel
theorem dX5_upsOf_11 : decode cX5_upsOf 11 = .ok (.iconst 0, 1) := by decide +kernel
theorem dX5_upsOf_12 : decode cX5_upsOf 12 = .ok (.istore 4, 2) := by decide +kernel
theorem dX5_upsOf_14 : decode cX5_upsOf 14 = .ok (.iload 4, 2) := by decide +kernel
theorem dX5_upsOf_16 : decode cX5_upsOf 16 = .ok (.bipush 16, 2) := by decide +kernel
theorem dX5_upsOf_18 : decode cX5_upsOf 18 = .ok (.if_icmp .ge 39, 3) := by decide +kernel
theorem dX5_upsOf_21 : decode cX5_upsOf 21 = .ok (.aload_n 0, 1) := by decide +kernel
theorem dX5_upsOf_22 : decode cX5_upsOf 22 = .ok (.getfield 7, 3) := by decide +kernel
theorem dX5_upsOf_25 : decode cX5_upsOf 25 = .ok (.iconst 5, 1) := by decide +kernel
theorem dX5_upsOf_26 : decode cX5_upsOf 26 = .ok (.iload_n 1, 1) := by decide +kernel
theorem dX5_upsOf_27 : decode cX5_upsOf 27 = .ok (.iadd, 1) := by decide +kernel
theorem dX5_upsOf_28 : decode cX5_upsOf 28 = .ok (.iload 4, 2) := by decide +kernel
theorem dX5_upsOf_30 : decode cX5_upsOf 30 = .ok (.iastore, 1) := by decide +kernel
theorem dX5_upsOf_31 : decode cX5_upsOf 31 = .ok (.iload_n 3, 1) := by decide +kernel
theorem dX5_upsOf_32 : decode cX5_upsOf 32 = .ok (.aload_n 0, 1) := by decide +kernel
theorem dX5_upsOf_33 : decode cX5_upsOf 33 = .ok (.iload 4, 2) := by decide +kernel
theorem dX5_upsOf_35 : decode cX5_upsOf 35 = .ok (.invokevirtual 252, 3) := by decide +kernel
theorem dX5_upsOf_38 : decode cX5_upsOf 38 = .ok (.ifCond .eq 10, 3) := by decide +kernel
theorem dX5_upsOf_41 : decode cX5_upsOf 41 = .ok (.iconst 1, 1) := by decide +kernel
theorem dX5_upsOf_42 : decode cX5_upsOf 42 = .ok (.iload 4, 2) := by decide +kernel
theorem dX5_upsOf_44 : decode cX5_upsOf 44 = .ok (.ishl, 1) := by decide +kernel
theorem dX5_upsOf_45 : decode cX5_upsOf 45 = .ok (.goto 4, 3) := by decide +kernel
theorem dX5_upsOf_48 : decode cX5_upsOf 48 = .ok (.iconst 0, 1) := by decide +kernel
theorem dX5_upsOf_49 : decode cX5_upsOf 49 = .ok (.ior, 1) := by decide +kernel
theorem dX5_upsOf_50 : decode cX5_upsOf 50 = .ok (.istore_n 3, 1) := by decide +kernel
theorem dX5_upsOf_51 : decode cX5_upsOf 51 = .ok (.iinc 4 1, 3) := by decide +kernel
theorem dX5_upsOf_54 : decode cX5_upsOf 54 = .ok (.goto (-40), 3) := by decide +kernel
theorem dX5_upsOf_57 : decode cX5_upsOf 57 = .ok (.aload_n 0, 1) := by decide +kernel
theorem dX5_upsOf_58 : decode cX5_upsOf 58 = .ok (.getfield 7, 3) := by decide +kernel
theorem dX5_upsOf_61 : decode cX5_upsOf 61 = .ok (.iconst 5, 1) := by decide +kernel
theorem dX5_upsOf_62 : decode cX5_upsOf 62 = .ok (.iload_n 1, 1) := by decide +kernel
theorem dX5_upsOf_63 : decode cX5_upsOf 63 = .ok (.iadd, 1) := by decide +kernel
theorem dX5_upsOf_64 : decode cX5_upsOf 64 = .ok (.iload_n 2, 1) := by decide +kernel
theorem dX5_upsOf_65 : decode cX5_upsOf 65 = .ok (.iastore, 1) := by decide +kernel
theorem dX5_upsOf_66 : decode cX5_upsOf 66 = .ok (.iload_n 3, 1) := by decide +kernel
theorem dX5_upsOf_67 : decode cX5_upsOf 67 = .ok (.ireturn, 1) := by decide +kernel
theorem dX5_ups_0 : decode cX5_ups 0 = .ok (.aload_n 0, 1) := by decide +kernel
theorem dX5_ups_1 : decode cX5_ups 1 = .ok (.iload_n 1, 1) := by decide +kernel
theorem dX5_ups_2 : decode cX5_ups 2 = .ok (.invokevirtual 182, 3) := by decide +kernel
theorem dX5_ups_5 : decode cX5_ups 5 = .ok (.ifCond .eq 11, 3) := by decide +kernel
theorem dX5_ups_8 : decode cX5_ups 8 = .ok (.aload_n 0, 1) := by decide +kernel
theorem dX5_ups_9 : decode cX5_ups 9 = .ok (.iload_n 1, 1) := by decide +kernel
theorem dX5_ups_10 : decode cX5_ups 10 = .ok (.invokevirtual 255, 3) := by decide +kernel
theorem dX5_ups_13 : decode cX5_ups 13 = .ok (.goto 4, 3) := by decide +kernel
theorem dX5_ups_16 : decode cX5_ups 16 = .ok (.iconst (-1), 1) := by decide +kernel
theorem dX5_ups_17 : decode cX5_ups 17 = .ok (.ireturn, 1) := by decide +kernel
theorem dX5_worstAt_0 : decode cX5_worstAt 0 = .ok (.iconst 0, 1) := by decide +kernel
theorem dX5_worstAt_1 : decode cX5_worstAt 1 = .ok (.istore_n 3, 1) := by decide +kernel
theorem dX5_worstAt_2 : decode cX5_worstAt 2 = .ok (.iconst 0, 1) := by decide +kernel
theorem dX5_worstAt_3 : decode cX5_worstAt 3 = .ok (.istore 4, 2) := by decide +kernel
theorem dX5_worstAt_5 : decode cX5_worstAt 5 = .ok (.iload 4, 2) := by decide +kernel
theorem dX5_worstAt_7 : decode cX5_worstAt 7 = .ok (.bipush 16, 2) := by decide +kernel
theorem dX5_worstAt_9 : decode cX5_worstAt 9 = .ok (.if_icmp .ge 98, 3) := by decide +kernel
theorem dX5_worstAt_12 : decode cX5_worstAt 12 = .ok (.iconst 0, 1) := by decide +kernel
theorem dX5_worstAt_13 : decode cX5_worstAt 13 = .ok (.istore 5, 2) := by decide +kernel
theorem dX5_worstAt_15 : decode cX5_worstAt 15 = .ok (.iconst 0, 1) := by decide +kernel
theorem dX5_worstAt_16 : decode cX5_worstAt 16 = .ok (.istore 6, 2) := by decide +kernel
theorem dX5_worstAt_18 : decode cX5_worstAt 18 = .ok (.iload 6, 2) := by decide +kernel
theorem dX5_worstAt_20 : decode cX5_worstAt 20 = .ok (.bipush 16, 2) := by decide +kernel
theorem dX5_worstAt_22 : decode cX5_worstAt 22 = .ok (.if_icmp .ge 66, 3) := by decide +kernel
theorem dX5_worstAt_25 : decode cX5_worstAt 25 = .ok (.iload_n 1, 1) := by decide +kernel
theorem dX5_worstAt_26 : decode cX5_worstAt 26 = .ok (.iload 4, 2) := by decide +kernel
theorem dX5_worstAt_28 : decode cX5_worstAt 28 = .ok (.ishr, 1) := by decide +kernel
theorem dX5_worstAt_29 : decode cX5_worstAt 29 = .ok (.iconst 1, 1) := by decide +kernel
theorem dX5_worstAt_30 : decode cX5_worstAt 30 = .ok (.iand, 1) := by decide +kernel
theorem dX5_worstAt_31 : decode cX5_worstAt 31 = .ok (.iconst 1, 1) := by decide +kernel
theorem dX5_worstAt_32 : decode cX5_worstAt 32 = .ok (.if_icmp .ne 56, 3) := by decide +kernel
theorem dX5_worstAt_35 : decode cX5_worstAt 35 = .ok (.iload 5, 2) := by decide +kernel
theorem dX5_worstAt_37 : decode cX5_worstAt 37 = .ok (.iload_n 1, 1) := by decide +kernel
theorem dX5_worstAt_38 : decode cX5_worstAt 38 = .ok (.iload 6, 2) := by decide +kernel
theorem dX5_worstAt_40 : decode cX5_worstAt 40 = .ok (.ishr, 1) := by decide +kernel
theorem dX5_worstAt_41 : decode cX5_worstAt 41 = .ok (.iconst 1, 1) := by decide +kernel
theorem dX5_worstAt_42 : decode cX5_worstAt 42 = .ok (.iand, 1) := by decide +kernel
theorem dX5_worstAt_43 : decode cX5_worstAt 43 = .ok (.iconst 1, 1) := by decide +kernel
theorem dX5_worstAt_44 : decode cX5_worstAt 44 = .ok (.if_icmp .ne 34, 3) := by decide +kernel
theorem dX5_worstAt_47 : decode cX5_worstAt 47 = .ok (.aload_n 0, 1) := by decide +kernel
theorem dX5_worstAt_48 : decode cX5_worstAt 48 = .ok (.getfield 28, 3) := by decide +kernel
theorem dX5_worstAt_51 : decode cX5_worstAt 51 = .ok (.bipush 105, 2) := by decide +kernel
theorem dX5_worstAt_53 : decode cX5_worstAt 53 = .ok (.iload 4, 2) := by decide +kernel
theorem dX5_worstAt_55 : decode cX5_worstAt 55 = .ok (.imul, 1) := by decide +kernel
theorem dX5_worstAt_56 : decode cX5_worstAt 56 = .ok (.iload_n 2, 1) := by decide +kernel
theorem dX5_worstAt_57 : decode cX5_worstAt 57 = .ok (.iadd, 1) := by decide +kernel
theorem dX5_worstAt_58 : decode cX5_worstAt 58 = .ok (.iaload, 1) := by decide +kernel
theorem dX5_worstAt_59 : decode cX5_worstAt 59 = .ok (.aload_n 0, 1) := by decide +kernel
theorem dX5_worstAt_60 : decode cX5_worstAt 60 = .ok (.getfield 28, 3) := by decide +kernel
theorem dX5_worstAt_63 : decode cX5_worstAt 63 = .ok (.bipush 105, 2) := by decide +kernel
theorem dX5_worstAt_65 : decode cX5_worstAt 65 = .ok (.iload 6, 2) := by decide +kernel
theorem dX5_worstAt_67 : decode cX5_worstAt 67 = .ok (.imul, 1) := by decide +kernel
theorem dX5_worstAt_68 : decode cX5_worstAt 68 = .ok (.iload_n 2, 1) := by decide +kernel
theorem dX5_worstAt_69 : decode cX5_worstAt 69 = .ok (.iadd, 1) := by decide +kernel
theorem dX5_worstAt_70 : decode cX5_worstAt 70 = .ok (.iaload, 1) := by decide +kernel
theorem dX5_worstAt_71 : decode cX5_worstAt 71 = .ok (.if_icmp .ne 7, 3) := by decide +kernel
theorem dX5_worstAt_74 : decode cX5_worstAt 74 = .ok (.iconst 1, 1) := by decide +kernel
theorem dX5_worstAt_75 : decode cX5_worstAt 75 = .ok (.goto 4, 3) := by decide +kernel
theorem dX5_worstAt_78 : decode cX5_worstAt 78 = .ok (.iconst 0, 1) := by decide +kernel
theorem dX5_worstAt_79 : decode cX5_worstAt 79 = .ok (.iadd, 1) := by decide +kernel
theorem dX5_worstAt_80 : decode cX5_worstAt 80 = .ok (.istore 5, 2) := by decide +kernel
theorem dX5_worstAt_82 : decode cX5_worstAt 82 = .ok (.iinc 6 1, 3) := by decide +kernel
theorem dX5_worstAt_85 : decode cX5_worstAt 85 = .ok (.goto (-67), 3) := by decide +kernel
theorem dX5_worstAt_88 : decode cX5_worstAt 88 = .ok (.iload 5, 2) := by decide +kernel
theorem dX5_worstAt_90 : decode cX5_worstAt 90 = .ok (.iload_n 3, 1) := by decide +kernel
theorem dX5_worstAt_91 : decode cX5_worstAt 91 = .ok (.if_icmp .le 8, 3) := by decide +kernel
theorem dX5_worstAt_94 : decode cX5_worstAt 94 = .ok (.iload 5, 2) := by decide +kernel
theorem dX5_worstAt_96 : decode cX5_worstAt 96 = .ok (.goto 4, 3) := by decide +kernel
theorem dX5_worstAt_99 : decode cX5_worstAt 99 = .ok (.iload_n 3, 1) := by decide +kernel
theorem dX5_worstAt_100 : decode cX5_worstAt 100 = .ok (.istore_n 3, 1) := by decide +kernel
theorem dX5_worstAt_101 : decode cX5_worstAt 101 = .ok (.iinc 4 1, 3) := by decide +kernel
theorem dX5_worstAt_104 : decode cX5_worstAt 104 = .ok (.goto (-99), 3) := by decide +kernel
theorem dX5_worstAt_107 : decode cX5_worstAt 107 = .ok (.iload_n 3, 1) := by decide +kernel
theorem dX5_worstAt_108 : decode cX5_worstAt 108 = .ok (.ireturn, 1) := by decide +kernel
theorem dX5_ask_0 : decode cX5_ask 0 = .ok (.aload_n 0, 1) := by decide +kernel
theorem dX5_ask_1 : decode cX5_ask 1 = .ok (.iload_n 1, 1) := by decide +kernel
theorem dX5_ask_2 : decode cX5_ask 2 = .ok (.invokevirtual 182, 3) := by decide +kernel
theorem dX5_ask_5 : decode cX5_ask 5 = .ok (.ifCond .eq 13, 3) := by decide +kernel
theorem dX5_ask_8 : decode cX5_ask 8 = .ok (.iload_n 2, 1) := by decide +kernel
theorem dX5_ask_9 : decode cX5_ask 9 = .ok (.i2l, 1) := by decide +kernel
theorem dX5_ask_10 : decode cX5_ask 10 = .ok (.lconst 0, 1) := by decide +kernel
theorem dX5_ask_11 : decode cX5_ask 11 = .ok (.lconst 1, 1) := by decide +kernel
theorem dX5_ask_12 : decode cX5_ask 12 = .ok (.invokestatic 46, 3) := by decide +kernel
theorem dX5_ask_15 : decode cX5_ask 15 = .ok (.ifCond .ne 5, 3) := by decide +kernel
theorem dX5_ask_18 : decode cX5_ask 18 = .ok (.iconst (-1), 1) := by decide +kernel
theorem dX5_ask_19 : decode cX5_ask 19 = .ok (.ireturn, 1) := by decide +kernel
theorem dX5_ask_20 : decode cX5_ask 20 = .ok (.aload_n 0, 1) := by decide +kernel
theorem dX5_ask_21 : decode cX5_ask 21 = .ok (.iload_n 1, 1) := by decide +kernel
theorem dX5_ask_22 : decode cX5_ask 22 = .ok (.invokevirtual 255, 3) := by decide +kernel
theorem dX5_ask_25 : decode cX5_ask 25 = .ok (.istore_n 3, 1) := by decide +kernel
theorem dX5_ask_26 : decode cX5_ask 26 = .ok (.iload_n 3, 1) := by decide +kernel
theorem dX5_ask_27 : decode cX5_ask 27 = .ok (.invokestatic 231, 3) := by decide +kernel
theorem dX5_ask_30 : decode cX5_ask 30 = .ok (.istore 4, 2) := by decide +kernel
theorem dX5_ask_32 : decode cX5_ask 32 = .ok (.bipush (-4), 2) := by decide +kernel
theorem dX5_ask_34 : decode cX5_ask 34 = .ok (.istore 5, 2) := by decide +kernel
theorem dX5_ask_36 : decode cX5_ask 36 = .ok (.iconst 0, 1) := by decide +kernel
theorem dX5_ask_37 : decode cX5_ask 37 = .ok (.istore 6, 2) := by decide +kernel
theorem dX5_ask_39 : decode cX5_ask 39 = .ok (.iload 6, 2) := by decide +kernel
theorem dX5_ask_41 : decode cX5_ask 41 = .ok (.bipush 20, 2) := by decide +kernel
theorem dX5_ask_43 : decode cX5_ask 43 = .ok (.if_icmp .gt 79, 3) := by decide +kernel
theorem dX5_ask_46 : decode cX5_ask 46 = .ok (.iconst 0, 1) := by decide +kernel
theorem dX5_ask_47 : decode cX5_ask 47 = .ok (.istore 7, 2) := by decide +kernel
theorem dX5_ask_49 : decode cX5_ask 49 = .ok (.iload 7, 2) := by decide +kernel
theorem dX5_ask_51 : decode cX5_ask 51 = .ok (.aload_n 0, 1) := by decide +kernel
theorem dX5_ask_52 : decode cX5_ask 52 = .ok (.getfield 131, 3) := by decide +kernel
theorem dX5_ask_55 : decode cX5_ask 55 = .ok (.if_icmp .ge 61, 3) := by decide +kernel
theorem dX5_ask_58 : decode cX5_ask 58 = .ok (.aload_n 0, 1) := by decide +kernel
theorem dX5_ask_59 : decode cX5_ask 59 = .ok (.iload_n 3, 1) := by decide +kernel
theorem dX5_ask_60 : decode cX5_ask 60 = .ok (.iconst 5, 1) := by decide +kernel
theorem dX5_ask_61 : decode cX5_ask 61 = .ok (.iload 6, 2) := by decide +kernel
theorem dX5_ask_63 : decode cX5_ask 63 = .ok (.imul, 1) := by decide +kernel
theorem dX5_ask_64 : decode cX5_ask 64 = .ok (.iload 7, 2) := by decide +kernel
theorem dX5_ask_66 : decode cX5_ask 66 = .ok (.iadd, 1) := by decide +kernel
theorem dX5_ask_67 : decode cX5_ask 67 = .ok (.invokevirtual 258, 3) := by decide +kernel
theorem dX5_ask_70 : decode cX5_ask 70 = .ok (.istore 8, 2) := by decide +kernel
theorem dX5_ask_72 : decode cX5_ask 72 = .ok (.iload 8, 2) := by decide +kernel
theorem dX5_ask_74 : decode cX5_ask 74 = .ok (.iload 4, 2) := by decide +kernel
theorem dX5_ask_76 : decode cX5_ask 76 = .ok (.if_icmp .ge 14, 3) := by decide +kernel
theorem dX5_ask_79 : decode cX5_ask 79 = .ok (.bipush 10, 2) := by decide +kernel
theorem dX5_ask_81 : decode cX5_ask 81 = .ok (.iload 6, 2) := by decide +kernel
theorem dX5_ask_83 : decode cX5_ask 83 = .ok (.imul, 1) := by decide +kernel
theorem dX5_ask_84 : decode cX5_ask 84 = .ok (.iload 7, 2) := by decide +kernel
theorem dX5_ask_86 : decode cX5_ask 86 = .ok (.iadd, 1) := by decide +kernel
theorem dX5_ask_87 : decode cX5_ask 87 = .ok (.goto 5, 3) := by decide +kernel
theorem dX5_ask_90 : decode cX5_ask 90 = .ok (.iload 5, 2) := by decide +kernel
theorem dX5_ask_92 : decode cX5_ask 92 = .ok (.istore 5, 2) := by decide +kernel
theorem dX5_ask_94 : decode cX5_ask 94 = .ok (.iload 8, 2) := by decide +kernel
theorem dX5_ask_96 : decode cX5_ask 96 = .ok (.iload 4, 2) := by decide +kernel
theorem dX5_ask_98 : decode cX5_ask 98 = .ok (.if_icmp .ge 8, 3) := by decide +kernel
theorem dX5_ask_101 : decode cX5_ask 101 = .ok (.iload 8, 2) := by decide +kernel
theorem dX5_ask_103 : decode cX5_ask 103 = .ok (.goto 5, 3) := by decide +kernel
theorem dX5_ask_106 : decode cX5_ask 106 = .ok (.iload 4, 2) := by decide +kernel
theorem dX5_ask_108 : decode cX5_ask 108 = .ok (.istore 4, 2) := by decide +kernel
theorem dX5_ask_110 : decode cX5_ask 110 = .ok (.iinc 7 1, 3) := by decide +kernel
theorem dX5_ask_113 : decode cX5_ask 113 = .ok (.goto (-64), 3) := by decide +kernel
theorem dX5_ask_116 : decode cX5_ask 116 = .ok (.iinc 6 1, 3) := by decide +kernel
theorem dX5_ask_119 : decode cX5_ask 119 = .ok (.goto (-80), 3) := by decide +kernel
theorem dX5_ask_122 : decode cX5_ask 122 = .ok (.iload 5, 2) := by decide +kernel
theorem dX5_ask_124 : decode cX5_ask 124 = .ok (.bipush (-4), 2) := by decide +kernel
theorem dX5_ask_126 : decode cX5_ask 126 = .ok (.if_icmp .eq 7, 3) := by decide +kernel
theorem dX5_ask_129 : decode cX5_ask 129 = .ok (.iload_n 2, 1) := by decide +kernel
theorem dX5_ask_130 : decode cX5_ask 130 = .ok (.ifCond .ne 8, 3) := by decide +kernel
theorem dX5_ask_133 : decode cX5_ask 133 = .ok (.iload 5, 2) := by decide +kernel
theorem dX5_ask_135 : decode cX5_ask 135 = .ok (.goto 5, 3) := by decide +kernel
theorem dX5_ask_138 : decode cX5_ask 138 = .ok (.iload 4, 2) := by decide +kernel
theorem dX5_ask_140 : decode cX5_ask 140 = .ok (.ireturn, 1) := by decide +kernel
theorem dX5_drift_0 : decode cX5_drift 0 = .ok (.iload_n 2, 1) := by decide +kernel
theorem dX5_drift_1 : decode cX5_drift 1 = .ok (.i2l, 1) := by decide +kernel
theorem dX5_drift_2 : decode cX5_drift 2 = .ok (.lconst 1, 1) := by decide +kernel
theorem dX5_drift_3 : decode cX5_drift 3 = .ok (.ldc2_w 226, 3) := by decide +kernel
theorem dX5_drift_6 : decode cX5_drift 6 = .ok (.invokestatic 46, 3) := by decide +kernel
theorem dX5_drift_9 : decode cX5_drift 9 = .ok (.ifCond .eq 13, 3) := by decide +kernel
theorem dX5_drift_12 : decode cX5_drift 12 = .ok (.iload_n 3, 1) := by decide +kernel
theorem dX5_drift_13 : decode cX5_drift 13 = .ok (.i2l, 1) := by decide +kernel
theorem dX5_drift_14 : decode cX5_drift 14 = .ok (.lconst 0, 1) := by decide +kernel
theorem dX5_drift_15 : decode cX5_drift 15 = .ok (.lconst 1, 1) := by decide +kernel
theorem dX5_drift_16 : decode cX5_drift 16 = .ok (.invokestatic 46, 3) := by decide +kernel
theorem dX5_drift_19 : decode cX5_drift 19 = .ok (.ifCond .ne 5, 3) := by decide +kernel
theorem dX5_drift_22 : decode cX5_drift 22 = .ok (.iconst (-1), 1) := by decide +kernel
theorem dX5_drift_23 : decode cX5_drift 23 = .ok (.ireturn, 1) := by decide +kernel
theorem dX5_drift_24 : decode cX5_drift 24 = .ok (.aload_n 0, 1) := by decide +kernel
theorem dX5_drift_25 : decode cX5_drift 25 = .ok (.getfield 131, 3) := by decide +kernel
theorem dX5_drift_28 : decode cX5_drift 28 = .ok (.ifCond .ne 6, 3) := by decide +kernel
theorem dX5_drift_31 : decode cX5_drift 31 = .ok (.bipush (-2), 2) := by decide +kernel
theorem dX5_drift_33 : decode cX5_drift 33 = .ok (.ireturn, 1) := by decide +kernel
theorem dX5_drift_34 : decode cX5_drift 34 = .ok (.aload_n 0, 1) := by decide +kernel
theorem dX5_drift_35 : decode cX5_drift 35 = .ok (.iconst 0, 1) := by decide +kernel
theorem dX5_drift_36 : decode cX5_drift 36 = .ok (.sipush 220, 3) := by decide +kernel
theorem dX5_drift_39 : decode cX5_drift 39 = .ok (.invokevirtual 216, 3) := by decide +kernel
theorem dX5_drift_42 : decode cX5_drift 42 = .ok (.aload_n 0, 1) := by decide +kernel
theorem dX5_drift_43 : decode cX5_drift 43 = .ok (.iconst 0, 1) := by decide +kernel
theorem dX5_drift_44 : decode cX5_drift 44 = .ok (.putfield 173, 3) := by decide +kernel
theorem dX5_drift_47 : decode cX5_drift 47 = .ok (.iload_n 1, 1) := by decide +kernel
theorem dX5_drift_48 : decode cX5_drift 48 = .ok (.istore 4, 2) := by decide +kernel
theorem dX5_drift_50 : decode cX5_drift 50 = .ok (.iconst 0, 1) := by decide +kernel
theorem dX5_drift_51 : decode cX5_drift 51 = .ok (.istore 5, 2) := by decide +kernel
theorem dX5_drift_53 : decode cX5_drift 53 = .ok (.iload 5, 2) := by decide +kernel
theorem dX5_drift_55 : decode cX5_drift 55 = .ok (.iload_n 2, 1) := by decide +kernel
theorem dX5_drift_56 : decode cX5_drift 56 = .ok (.if_icmp .ge 63, 3) := by decide +kernel
theorem dX5_drift_59 : decode cX5_drift 59 = .ok (.iload 4, 2) := by decide +kernel
theorem dX5_drift_61 : decode cX5_drift 61 = .ok (.ldc_w 261, 3) := by decide +kernel
theorem dX5_drift_64 : decode cX5_drift 64 = .ok (.imul, 1) := by decide +kernel
theorem dX5_drift_65 : decode cX5_drift 65 = .ok (.sipush 12345, 3) := by decide +kernel
theorem dX5_drift_68 : decode cX5_drift 68 = .ok (.iadd, 1) := by decide +kernel
theorem dX5_drift_69 : decode cX5_drift 69 = .ok (.istore 4, 2) := by decide +kernel
theorem dX5_drift_71 : decode cX5_drift 71 = .ok (.iload 4, 2) := by decide +kernel
theorem dX5_drift_73 : decode cX5_drift 73 = .ok (.bipush 16, 2) := by decide +kernel
theorem dX5_drift_75 : decode cX5_drift 75 = .ok (.ishr, 1) := by decide +kernel
theorem dX5_drift_76 : decode cX5_drift 76 = .ok (.sipush 32767, 3) := by decide +kernel
theorem dX5_drift_79 : decode cX5_drift 79 = .ok (.iand, 1) := by decide +kernel
theorem dX5_drift_80 : decode cX5_drift 80 = .ok (.istore 6, 2) := by decide +kernel
theorem dX5_drift_82 : decode cX5_drift 82 = .ok (.aload_n 0, 1) := by decide +kernel
theorem dX5_drift_83 : decode cX5_drift 83 = .ok (.getfield 7, 3) := by decide +kernel
theorem dX5_drift_86 : decode cX5_drift 86 = .ok (.sipush 225, 3) := by decide +kernel
theorem dX5_drift_89 : decode cX5_drift 89 = .ok (.iload 6, 2) := by decide +kernel
theorem dX5_drift_91 : decode cX5_drift 91 = .ok (.aload_n 0, 1) := by decide +kernel
theorem dX5_drift_92 : decode cX5_drift 92 = .ok (.getfield 131, 3) := by decide +kernel
theorem dX5_drift_95 : decode cX5_drift 95 = .ok (.irem, 1) := by decide +kernel
theorem dX5_drift_96 : decode cX5_drift 96 = .ok (.iadd, 1) := by decide +kernel
theorem dX5_drift_97 : decode cX5_drift 97 = .ok (.iload 6, 2) := by decide +kernel
theorem dX5_drift_99 : decode cX5_drift 99 = .ok (.bipush 16, 2) := by decide +kernel
theorem dX5_drift_101 : decode cX5_drift 101 = .ok (.idiv, 1) := by decide +kernel
theorem dX5_drift_102 : decode cX5_drift 102 = .ok (.bipush 16, 2) := by decide +kernel
theorem dX5_drift_104 : decode cX5_drift 104 = .ok (.irem, 1) := by decide +kernel
theorem dX5_drift_105 : decode cX5_drift 105 = .ok (.iastore, 1) := by decide +kernel
theorem dX5_drift_106 : decode cX5_drift 106 = .ok (.aload_n 0, 1) := by decide +kernel
theorem dX5_drift_107 : decode cX5_drift 107 = .ok (.sipush 220, 3) := by decide +kernel
theorem dX5_drift_110 : decode cX5_drift 110 = .ok (.invokevirtual 213, 3) := by decide +kernel
theorem dX5_drift_113 : decode cX5_drift 113 = .ok (.iinc 5 1, 3) := by decide +kernel
theorem dX5_drift_116 : decode cX5_drift 116 = .ok (.goto (-63), 3) := by decide +kernel
theorem dX5_drift_119 : decode cX5_drift 119 = .ok (.iload_n 3, 1) := by decide +kernel
theorem dX5_drift_120 : decode cX5_drift 120 = .ok (.ifCond .ne 10, 3) := by decide +kernel
theorem dX5_drift_123 : decode cX5_drift 123 = .ok (.aload_n 0, 1) := by decide +kernel
theorem dX5_drift_124 : decode cX5_drift 124 = .ok (.getfield 173, 3) := by decide +kernel
theorem dX5_drift_127 : decode cX5_drift 127 = .ok (.goto 10, 3) := by decide +kernel
theorem dX5_drift_130 : decode cX5_drift 130 = .ok (.aload_n 0, 1) := by decide +kernel
theorem dX5_drift_131 : decode cX5_drift 131 = .ok (.sipush 220, 3) := by decide +kernel
theorem dX5_drift_134 : decode cX5_drift 134 = .ok (.invokevirtual 179, 3) := by decide +kernel
theorem dX5_drift_137 : decode cX5_drift 137 = .ok (.ireturn, 1) := by decide +kernel
theorem dX5_keep_0 : decode cX5_keep 0 = .ok (.iload_n 1, 1) := by decide +kernel
theorem dX5_keep_1 : decode cX5_keep 1 = .ok (.i2l, 1) := by decide +kernel
theorem dX5_keep_2 : decode cX5_keep 2 = .ok (.lconst 0, 1) := by decide +kernel
theorem dX5_keep_3 : decode cX5_keep 3 = .ok (.lconst 1, 1) := by decide +kernel
theorem dX5_keep_4 : decode cX5_keep 4 = .ok (.invokestatic 46, 3) := by decide +kernel
theorem dX5_keep_7 : decode cX5_keep 7 = .ok (.ifCond .ne 5, 3) := by decide +kernel
theorem dX5_keep_10 : decode cX5_keep 10 = .ok (.iconst (-1), 1) := by decide +kernel
theorem dX5_keep_11 : decode cX5_keep 11 = .ok (.ireturn, 1) := by decide +kernel
theorem dX5_keep_12 : decode cX5_keep 12 = .ok (.aload_n 0, 1) := by decide +kernel
theorem dX5_keep_13 : decode cX5_keep 13 = .ok (.iconst 0, 1) := by decide +kernel
theorem dX5_keep_14 : decode cX5_keep 14 = .ok (.bipush 55, 2) := by decide +kernel
theorem dX5_keep_16 : decode cX5_keep 16 = .ok (.iload_n 1, 1) := by decide +kernel
theorem dX5_keep_17 : decode cX5_keep 17 = .ok (.iconst 1, 1) := by decide +kernel
theorem dX5_keep_18 : decode cX5_keep 18 = .ok (.iadd, 1) := by decide +kernel
theorem dX5_keep_19 : decode cX5_keep 19 = .ok (.imul, 1) := by decide +kernel
theorem dX5_keep_20 : decode cX5_keep 20 = .ok (.invokevirtual 216, 3) := by decide +kernel
theorem dX5_keep_23 : decode cX5_keep 23 = .ok (.aload_n 0, 1) := by decide +kernel
theorem dX5_keep_24 : decode cX5_keep 24 = .ok (.getfield 31, 3) := by decide +kernel
theorem dX5_keep_27 : decode cX5_keep 27 = .ok (.iload_n 1, 1) := by decide +kernel
theorem dX5_keep_28 : decode cX5_keep 28 = .ok (.baload, 1) := by decide +kernel
theorem dX5_keep_29 : decode cX5_keep 29 = .ok (.ifCond .eq 7, 3) := by decide +kernel
theorem dX5_keep_32 : decode cX5_keep 32 = .ok (.iconst 1, 1) := by decide +kernel
theorem dX5_keep_33 : decode cX5_keep 33 = .ok (.goto 4, 3) := by decide +kernel
theorem dX5_keep_36 : decode cX5_keep 36 = .ok (.iconst 0, 1) := by decide +kernel
theorem dX5_keep_37 : decode cX5_keep 37 = .ok (.istore_n 2, 1) := by decide +kernel
theorem dX5_keep_38 : decode cX5_keep 38 = .ok (.aload_n 0, 1) := by decide +kernel
theorem dX5_keep_39 : decode cX5_keep 39 = .ok (.getfield 31, 3) := by decide +kernel
theorem dX5_keep_42 : decode cX5_keep 42 = .ok (.iload_n 1, 1) := by decide +kernel
theorem dX5_keep_43 : decode cX5_keep 43 = .ok (.iconst 1, 1) := by decide +kernel
theorem dX5_keep_44 : decode cX5_keep 44 = .ok (.bastore, 1) := by decide +kernel
theorem dX5_keep_45 : decode cX5_keep 45 = .ok (.iload_n 2, 1) := by decide +kernel
theorem dX5_keep_46 : decode cX5_keep 46 = .ok (.ireturn, 1) := by decide +kernel
theorem dX5_back_0 : decode cX5_back 0 = .ok (.iload_n 1, 1) := by decide +kernel
theorem dX5_back_1 : decode cX5_back 1 = .ok (.i2l, 1) := by decide +kernel
theorem dX5_back_2 : decode cX5_back 2 = .ok (.lconst 0, 1) := by decide +kernel
theorem dX5_back_3 : decode cX5_back 3 = .ok (.lconst 1, 1) := by decide +kernel
theorem dX5_back_4 : decode cX5_back 4 = .ok (.invokestatic 46, 3) := by decide +kernel
theorem dX5_back_7 : decode cX5_back 7 = .ok (.ifCond .ne 5, 3) := by decide +kernel
theorem dX5_back_10 : decode cX5_back 10 = .ok (.iconst (-1), 1) := by decide +kernel
theorem dX5_back_11 : decode cX5_back 11 = .ok (.ireturn, 1) := by decide +kernel
theorem dX5_back_12 : decode cX5_back 12 = .ok (.aload_n 0, 1) := by decide +kernel
theorem dX5_back_13 : decode cX5_back 13 = .ok (.getfield 31, 3) := by decide +kernel
theorem dX5_back_16 : decode cX5_back 16 = .ok (.iload_n 1, 1) := by decide +kernel
theorem dX5_back_17 : decode cX5_back 17 = .ok (.baload, 1) := by decide +kernel
theorem dX5_back_18 : decode cX5_back 18 = .ok (.ifCond .ne 6, 3) := by decide +kernel
theorem dX5_back_21 : decode cX5_back 21 = .ok (.bipush (-2), 2) := by decide +kernel
theorem dX5_back_23 : decode cX5_back 23 = .ok (.ireturn, 1) := by decide +kernel
theorem dX5_back_24 : decode cX5_back 24 = .ok (.aload_n 0, 1) := by decide +kernel
theorem dX5_back_25 : decode cX5_back 25 = .ok (.bipush 55, 2) := by decide +kernel
theorem dX5_back_27 : decode cX5_back 27 = .ok (.iload_n 1, 1) := by decide +kernel
theorem dX5_back_28 : decode cX5_back 28 = .ok (.iconst 1, 1) := by decide +kernel
theorem dX5_back_29 : decode cX5_back 29 = .ok (.iadd, 1) := by decide +kernel
theorem dX5_back_30 : decode cX5_back 30 = .ok (.imul, 1) := by decide +kernel
theorem dX5_back_31 : decode cX5_back 31 = .ok (.iconst 0, 1) := by decide +kernel
theorem dX5_back_32 : decode cX5_back 32 = .ok (.invokevirtual 216, 3) := by decide +kernel
theorem dX5_back_35 : decode cX5_back 35 = .ok (.aload_n 0, 1) := by decide +kernel
theorem dX5_back_36 : decode cX5_back 36 = .ok (.getfield 7, 3) := by decide +kernel
theorem dX5_back_39 : decode cX5_back 39 = .ok (.bipush 53, 2) := by decide +kernel
theorem dX5_back_41 : decode cX5_back 41 = .ok (.iaload, 1) := by decide +kernel
theorem dX5_back_42 : decode cX5_back 42 = .ok (.ireturn, 1) := by decide +kernel
theorem dX5_sheet_0 : decode cX5_sheet 0 = .ok (.iload_n 1, 1) := by decide +kernel
theorem dX5_sheet_1 : decode cX5_sheet 1 = .ok (.i2l, 1) := by decide +kernel
theorem dX5_sheet_2 : decode cX5_sheet 2 = .ok (.lconst 0, 1) := by decide +kernel
theorem dX5_sheet_3 : decode cX5_sheet 3 = .ok (.ldc2_w 91, 3) := by decide +kernel
theorem dX5_sheet_6 : decode cX5_sheet 6 = .ok (.invokestatic 46, 3) := by decide +kernel
theorem dX5_sheet_9 : decode cX5_sheet 9 = .ok (.ifCond .eq 21, 3) := by decide +kernel
theorem dX5_sheet_12 : decode cX5_sheet 12 = .ok (.iload_n 2, 1) := by decide +kernel
theorem dX5_sheet_13 : decode cX5_sheet 13 = .ok (.i2l, 1) := by decide +kernel
theorem dX5_sheet_14 : decode cX5_sheet 14 = .ok (.lconst 0, 1) := by decide +kernel
theorem dX5_sheet_15 : decode cX5_sheet 15 = .ok (.ldc2_w 262, 3) := by decide +kernel
theorem dX5_sheet_18 : decode cX5_sheet 18 = .ok (.invokestatic 46, 3) := by decide +kernel
theorem dX5_sheet_21 : decode cX5_sheet 21 = .ok (.ifCond .eq 9, 3) := by decide +kernel
theorem dX5_sheet_24 : decode cX5_sheet 24 = .ok (.iload_n 3, 1) := by decide +kernel
theorem dX5_sheet_25 : decode cX5_sheet 25 = .ok (.bipush 40, 2) := by decide +kernel
theorem dX5_sheet_27 : decode cX5_sheet 27 = .ok (.if_icmp .le 5, 3) := by decide +kernel
theorem dX5_sheet_30 : decode cX5_sheet 30 = .ok (.iconst (-1), 1) := by decide +kernel
theorem dX5_sheet_31 : decode cX5_sheet 31 = .ok (.ireturn, 1) := by decide +kernel
theorem dX5_sheet_32 : decode cX5_sheet 32 = .ok (.iload_n 3, 1) := by decide +kernel
theorem dX5_sheet_33 : decode cX5_sheet 33 = .ok (.ifCond .ge 6, 3) := by decide +kernel
theorem dX5_sheet_36 : decode cX5_sheet 36 = .ok (.bipush (-14), 2) := by decide +kernel
theorem dX5_sheet_38 : decode cX5_sheet 38 = .ok (.ireturn, 1) := by decide +kernel
theorem dX5_sheet_39 : decode cX5_sheet 39 = .ok (.aload_n 0, 1) := by decide +kernel
theorem dX5_sheet_40 : decode cX5_sheet 40 = .ok (.getfield 35, 3) := by decide +kernel
theorem dX5_sheet_43 : decode cX5_sheet 43 = .ok (.iload_n 1, 1) := by decide +kernel
theorem dX5_sheet_44 : decode cX5_sheet 44 = .ok (.iload_n 2, 1) := by decide +kernel
theorem dX5_sheet_45 : decode cX5_sheet 45 = .ok (.iastore, 1) := by decide +kernel
theorem dX5_sheet_46 : decode cX5_sheet 46 = .ok (.aload_n 0, 1) := by decide +kernel
theorem dX5_sheet_47 : decode cX5_sheet 47 = .ok (.getfield 38, 3) := by decide +kernel
theorem dX5_sheet_50 : decode cX5_sheet 50 = .ok (.iload_n 1, 1) := by decide +kernel
theorem dX5_sheet_51 : decode cX5_sheet 51 = .ok (.iload_n 3, 1) := by decide +kernel
theorem dX5_sheet_52 : decode cX5_sheet 52 = .ok (.iastore, 1) := by decide +kernel
theorem dX5_sheet_53 : decode cX5_sheet 53 = .ok (.iconst 0, 1) := by decide +kernel
theorem dX5_sheet_54 : decode cX5_sheet 54 = .ok (.istore 4, 2) := by decide +kernel
theorem dX5_sheet_56 : decode cX5_sheet 56 = .ok (.iload 4, 2) := by decide +kernel
theorem dX5_sheet_58 : decode cX5_sheet 58 = .ok (.bipush 40, 2) := by decide +kernel
theorem dX5_sheet_60 : decode cX5_sheet 60 = .ok (.if_icmp .ge 22, 3) := by decide +kernel
theorem dX5_sheet_63 : decode cX5_sheet 63 = .ok (.aload_n 0, 1) := by decide +kernel
theorem dX5_sheet_64 : decode cX5_sheet 64 = .ok (.getfield 41, 3) := by decide +kernel
theorem dX5_sheet_67 : decode cX5_sheet 67 = .ok (.bipush 40, 2) := by decide +kernel
theorem dX5_sheet_69 : decode cX5_sheet 69 = .ok (.iload_n 1, 1) := by decide +kernel
theorem dX5_sheet_70 : decode cX5_sheet 70 = .ok (.imul, 1) := by decide +kernel
theorem dX5_sheet_71 : decode cX5_sheet 71 = .ok (.iload 4, 2) := by decide +kernel
theorem dX5_sheet_73 : decode cX5_sheet 73 = .ok (.iadd, 1) := by decide +kernel
theorem dX5_sheet_74 : decode cX5_sheet 74 = .ok (.iconst 0, 1) := by decide +kernel
theorem dX5_sheet_75 : decode cX5_sheet 75 = .ok (.iastore, 1) := by decide +kernel
theorem dX5_sheet_76 : decode cX5_sheet 76 = .ok (.iinc 4 1, 3) := by decide +kernel
theorem dX5_sheet_79 : decode cX5_sheet 79 = .ok (.goto (-23), 3) := by decide +kernel
theorem dX5_sheet_82 : decode cX5_sheet 82 = .ok (.iconst 1, 1) := by decide +kernel
theorem dX5_sheet_83 : decode cX5_sheet 83 = .ok (.ireturn, 1) := by decide +kernel
theorem dX5_lay_0 : decode cX5_lay 0 = .ok (.iload_n 1, 1) := by decide +kernel
theorem dX5_lay_1 : decode cX5_lay 1 = .ok (.i2l, 1) := by decide +kernel
theorem dX5_lay_2 : decode cX5_lay 2 = .ok (.lconst 0, 1) := by decide +kernel
theorem dX5_lay_3 : decode cX5_lay 3 = .ok (.ldc2_w 91, 3) := by decide +kernel
theorem dX5_lay_6 : decode cX5_lay 6 = .ok (.invokestatic 46, 3) := by decide +kernel
theorem dX5_lay_9 : decode cX5_lay 9 = .ok (.ifCond .ne 5, 3) := by decide +kernel
theorem dX5_lay_12 : decode cX5_lay 12 = .ok (.iconst (-1), 1) := by decide +kernel
theorem dX5_lay_13 : decode cX5_lay 13 = .ok (.ireturn, 1) := by decide +kernel
theorem dX5_lay_14 : decode cX5_lay 14 = .ok (.aload_n 0, 1) := by decide +kernel
theorem dX5_lay_15 : decode cX5_lay 15 = .ok (.getfield 35, 3) := by decide +kernel
theorem dX5_lay_18 : decode cX5_lay 18 = .ok (.iload_n 1, 1) := by decide +kernel
theorem dX5_lay_19 : decode cX5_lay 19 = .ok (.iaload, 1) := by decide +kernel
theorem dX5_lay_20 : decode cX5_lay 20 = .ok (.bipush (-4), 2) := by decide +kernel
theorem dX5_lay_22 : decode cX5_lay 22 = .ok (.if_icmp .ne 6, 3) := by decide +kernel
theorem dX5_lay_25 : decode cX5_lay 25 = .ok (.bipush (-11), 2) := by decide +kernel
theorem dX5_lay_27 : decode cX5_lay 27 = .ok (.ireturn, 1) := by decide +kernel
theorem dX5_lay_28 : decode cX5_lay 28 = .ok (.iload_n 2, 1) := by decide +kernel
theorem dX5_lay_29 : decode cX5_lay 29 = .ok (.i2l, 1) := by decide +kernel
theorem dX5_lay_30 : decode cX5_lay 30 = .ok (.lconst 0, 1) := by decide +kernel
theorem dX5_lay_31 : decode cX5_lay 31 = .ok (.aload_n 0, 1) := by decide +kernel
theorem dX5_lay_32 : decode cX5_lay 32 = .ok (.getfield 38, 3) := by decide +kernel
theorem dX5_lay_35 : decode cX5_lay 35 = .ok (.iload_n 1, 1) := by decide +kernel
theorem dX5_lay_36 : decode cX5_lay 36 = .ok (.iaload, 1) := by decide +kernel
theorem dX5_lay_37 : decode cX5_lay 37 = .ok (.iconst 1, 1) := by decide +kernel
theorem dX5_lay_38 : decode cX5_lay 38 = .ok (.isub, 1) := by decide +kernel
theorem dX5_lay_39 : decode cX5_lay 39 = .ok (.i2l, 1) := by decide +kernel
theorem dX5_lay_40 : decode cX5_lay 40 = .ok (.invokestatic 46, 3) := by decide +kernel
theorem dX5_lay_43 : decode cX5_lay 43 = .ok (.ifCond .ne 6, 3) := by decide +kernel
theorem dX5_lay_46 : decode cX5_lay 46 = .ok (.bipush (-12), 2) := by decide +kernel
theorem dX5_lay_48 : decode cX5_lay 48 = .ok (.ireturn, 1) := by decide +kernel
theorem dX5_lay_49 : decode cX5_lay 49 = .ok (.aload_n 0, 1) := by decide +kernel
theorem dX5_lay_50 : decode cX5_lay 50 = .ok (.getfield 41, 3) := by decide +kernel
theorem dX5_lay_53 : decode cX5_lay 53 = .ok (.bipush 40, 2) := by decide +kernel
theorem dX5_lay_55 : decode cX5_lay 55 = .ok (.iload_n 1, 1) := by decide +kernel
theorem dX5_lay_56 : decode cX5_lay 56 = .ok (.imul, 1) := by decide +kernel
theorem dX5_lay_57 : decode cX5_lay 57 = .ok (.iload_n 2, 1) := by decide +kernel
theorem dX5_lay_58 : decode cX5_lay 58 = .ok (.iadd, 1) := by decide +kernel
theorem dX5_lay_59 : decode cX5_lay 59 = .ok (.aload_n 0, 1) := by decide +kernel
theorem dX5_lay_60 : decode cX5_lay 60 = .ok (.getfield 35, 3) := by decide +kernel
theorem dX5_lay_63 : decode cX5_lay 63 = .ok (.iload_n 1, 1) := by decide +kernel
theorem dX5_lay_64 : decode cX5_lay 64 = .ok (.iaload, 1) := by decide +kernel
theorem dX5_lay_65 : decode cX5_lay 65 = .ok (.ifCond .ne 13, 3) := by decide +kernel
theorem dX5_lay_68 : decode cX5_lay 68 = .ok (.iload_n 3, 1) := by decide +kernel
theorem dX5_lay_69 : decode cX5_lay 69 = .ok (.bipush 24, 2) := by decide +kernel
theorem dX5_lay_71 : decode cX5_lay 71 = .ok (.ishl, 1) := by decide +kernel
theorem dX5_lay_72 : decode cX5_lay 72 = .ok (.bipush 24, 2) := by decide +kernel
theorem dX5_lay_74 : decode cX5_lay 74 = .ok (.ishr, 1) := by decide +kernel
theorem dX5_lay_75 : decode cX5_lay 75 = .ok (.goto 24, 3) := by decide +kernel
theorem dX5_lay_78 : decode cX5_lay 78 = .ok (.aload_n 0, 1) := by decide +kernel
theorem dX5_lay_79 : decode cX5_lay 79 = .ok (.getfield 35, 3) := by decide +kernel
theorem dX5_lay_82 : decode cX5_lay 82 = .ok (.iload_n 1, 1) := by decide +kernel
theorem dX5_lay_83 : decode cX5_lay 83 = .ok (.iaload, 1) := by decide +kernel
theorem dX5_lay_84 : decode cX5_lay 84 = .ok (.iconst 1, 1) := by decide +kernel
theorem dX5_lay_85 : decode cX5_lay 85 = .ok (.if_icmp .ne 13, 3) := by decide +kernel
theorem dX5_lay_88 : decode cX5_lay 88 = .ok (.iload_n 3, 1) := by decide +kernel
theorem dX5_lay_89 : decode cX5_lay 89 = .ok (.bipush 16, 2) := by decide +kernel
theorem dX5_lay_91 : decode cX5_lay 91 = .ok (.ishl, 1) := by decide +kernel
theorem dX5_lay_92 : decode cX5_lay 92 = .ok (.bipush 16, 2) := by decide +kernel
theorem dX5_lay_94 : decode cX5_lay 94 = .ok (.ishr, 1) := by decide +kernel
theorem dX5_lay_95 : decode cX5_lay 95 = .ok (.goto 4, 3) := by decide +kernel
theorem dX5_lay_98 : decode cX5_lay 98 = .ok (.iload_n 3, 1) := by decide +kernel
theorem dX5_lay_99 : decode cX5_lay 99 = .ok (.iastore, 1) := by decide +kernel
theorem dX5_lay_100 : decode cX5_lay 100 = .ok (.iconst 1, 1) := by decide +kernel
theorem dX5_lay_101 : decode cX5_lay 101 = .ok (.ireturn, 1) := by decide +kernel
theorem dX5_read_0 : decode cX5_read 0 = .ok (.iload_n 1, 1) := by decide +kernel
theorem dX5_read_1 : decode cX5_read 1 = .ok (.i2l, 1) := by decide +kernel
theorem dX5_read_2 : decode cX5_read 2 = .ok (.lconst 0, 1) := by decide +kernel
theorem dX5_read_3 : decode cX5_read 3 = .ok (.ldc2_w 91, 3) := by decide +kernel
theorem dX5_read_6 : decode cX5_read 6 = .ok (.invokestatic 46, 3) := by decide +kernel
theorem dX5_read_9 : decode cX5_read 9 = .ok (.ifCond .eq 28, 3) := by decide +kernel
theorem dX5_read_12 : decode cX5_read 12 = .ok (.iload_n 2, 1) := by decide +kernel
theorem dX5_read_13 : decode cX5_read 13 = .ok (.i2l, 1) := by decide +kernel
theorem dX5_read_14 : decode cX5_read 14 = .ok (.lconst 0, 1) := by decide +kernel
theorem dX5_read_15 : decode cX5_read 15 = .ok (.ldc2_w 262, 3) := by decide +kernel
theorem dX5_read_18 : decode cX5_read 18 = .ok (.invokestatic 46, 3) := by decide +kernel
theorem dX5_read_21 : decode cX5_read 21 = .ok (.ifCond .eq 16, 3) := by decide +kernel
theorem dX5_read_24 : decode cX5_read 24 = .ok (.iload 4, 2) := by decide +kernel
theorem dX5_read_26 : decode cX5_read 26 = .ok (.i2l, 1) := by decide +kernel
theorem dX5_read_27 : decode cX5_read 27 = .ok (.lconst 0, 1) := by decide +kernel
theorem dX5_read_28 : decode cX5_read 28 = .ok (.ldc2_w 238, 3) := by decide +kernel
theorem dX5_read_31 : decode cX5_read 31 = .ok (.invokestatic 46, 3) := by decide +kernel
theorem dX5_read_34 : decode cX5_read 34 = .ok (.ifCond .ne 5, 3) := by decide +kernel
theorem dX5_read_37 : decode cX5_read 37 = .ok (.iconst (-1), 1) := by decide +kernel
theorem dX5_read_38 : decode cX5_read 38 = .ok (.ireturn, 1) := by decide +kernel
theorem dX5_read_39 : decode cX5_read 39 = .ok (.aload_n 0, 1) := by decide +kernel
theorem dX5_read_40 : decode cX5_read 40 = .ok (.iconst 0, 1) := by decide +kernel
theorem dX5_read_41 : decode cX5_read 41 = .ok (.sipush 165, 3) := by decide +kernel
theorem dX5_read_44 : decode cX5_read 44 = .ok (.invokevirtual 216, 3) := by decide +kernel
theorem dX5_read_47 : decode cX5_read 47 = .ok (.iconst 0, 1) := by decide +kernel
theorem dX5_read_48 : decode cX5_read 48 = .ok (.istore 5, 2) := by decide +kernel
theorem dX5_read_50 : decode cX5_read 50 = .ok (.iconst 0, 1) := by decide +kernel
theorem dX5_read_51 : decode cX5_read 51 = .ok (.istore 6, 2) := by decide +kernel
theorem dX5_read_53 : decode cX5_read 53 = .ok (.iconst 0, 1) := by decide +kernel
theorem dX5_read_54 : decode cX5_read 54 = .ok (.istore 7, 2) := by decide +kernel
theorem dX5_read_56 : decode cX5_read 56 = .ok (.iload 7, 2) := by decide +kernel
theorem dX5_read_58 : decode cX5_read 58 = .ok (.iconst 4, 1) := by decide +kernel
theorem dX5_read_59 : decode cX5_read 59 = .ok (.iload 4, 2) := by decide +kernel
theorem dX5_read_61 : decode cX5_read 61 = .ok (.imul, 1) := by decide +kernel
theorem dX5_read_62 : decode cX5_read 62 = .ok (.if_icmp .ge 154, 3) := by decide +kernel
theorem dX5_read_65 : decode cX5_read 65 = .ok (.iload 5, 2) := by decide +kernel
theorem dX5_read_67 : decode cX5_read 67 = .ok (.ifCond .ne 149, 3) := by decide +kernel
theorem dX5_read_70 : decode cX5_read 70 = .ok (.aload_n 0, 1) := by decide +kernel
theorem dX5_read_71 : decode cX5_read 71 = .ok (.getfield 35, 3) := by decide +kernel
theorem dX5_read_74 : decode cX5_read 74 = .ok (.iload_n 1, 1) := by decide +kernel
theorem dX5_read_75 : decode cX5_read 75 = .ok (.iaload, 1) := by decide +kernel
theorem dX5_read_76 : decode cX5_read 76 = .ok (.bipush (-4), 2) := by decide +kernel
theorem dX5_read_78 : decode cX5_read 78 = .ok (.if_icmp .ne 7, 3) := by decide +kernel
theorem dX5_read_81 : decode cX5_read 81 = .ok (.iconst 1, 1) := by decide +kernel
theorem dX5_read_82 : decode cX5_read 82 = .ok (.goto 44, 3) := by decide +kernel
theorem dX5_read_85 : decode cX5_read 85 = .ok (.aload_n 0, 1) := by decide +kernel
theorem dX5_read_86 : decode cX5_read 86 = .ok (.getfield 35, 3) := by decide +kernel
theorem dX5_read_89 : decode cX5_read 89 = .ok (.iload_n 1, 1) := by decide +kernel
theorem dX5_read_90 : decode cX5_read 90 = .ok (.iaload, 1) := by decide +kernel
theorem dX5_read_91 : decode cX5_read 91 = .ok (.iload_n 2, 1) := by decide +kernel
theorem dX5_read_92 : decode cX5_read 92 = .ok (.if_icmp .eq 7, 3) := by decide +kernel
theorem dX5_read_95 : decode cX5_read 95 = .ok (.iconst 3, 1) := by decide +kernel
theorem dX5_read_96 : decode cX5_read 96 = .ok (.goto 30, 3) := by decide +kernel
theorem dX5_read_99 : decode cX5_read 99 = .ok (.iload_n 3, 1) := by decide +kernel
theorem dX5_read_100 : decode cX5_read 100 = .ok (.i2l, 1) := by decide +kernel
theorem dX5_read_101 : decode cX5_read 101 = .ok (.iload 7, 2) := by decide +kernel
theorem dX5_read_103 : decode cX5_read 103 = .ok (.i2l, 1) := by decide +kernel
theorem dX5_read_104 : decode cX5_read 104 = .ok (.ladd, 1) := by decide +kernel
theorem dX5_read_105 : decode cX5_read 105 = .ok (.lconst 0, 1) := by decide +kernel
theorem dX5_read_106 : decode cX5_read 106 = .ok (.aload_n 0, 1) := by decide +kernel
theorem dX5_read_107 : decode cX5_read 107 = .ok (.getfield 38, 3) := by decide +kernel
theorem dX5_read_110 : decode cX5_read 110 = .ok (.iload_n 1, 1) := by decide +kernel
theorem dX5_read_111 : decode cX5_read 111 = .ok (.iaload, 1) := by decide +kernel
theorem dX5_read_112 : decode cX5_read 112 = .ok (.iconst 1, 1) := by decide +kernel
theorem dX5_read_113 : decode cX5_read 113 = .ok (.isub, 1) := by decide +kernel
theorem dX5_read_114 : decode cX5_read 114 = .ok (.i2l, 1) := by decide +kernel
theorem dX5_read_115 : decode cX5_read 115 = .ok (.invokestatic 46, 3) := by decide +kernel
theorem dX5_read_118 : decode cX5_read 118 = .ok (.ifCond .ne 7, 3) := by decide +kernel
theorem dX5_read_121 : decode cX5_read 121 = .ok (.iconst 2, 1) := by decide +kernel
theorem dX5_read_122 : decode cX5_read 122 = .ok (.goto 4, 3) := by decide +kernel
theorem dX5_read_125 : decode cX5_read 125 = .ok (.iconst 0, 1) := by decide +kernel
theorem dX5_read_126 : decode cX5_read 126 = .ok (.istore 5, 2) := by decide +kernel
theorem dX5_read_128 : decode cX5_read 128 = .ok (.iload 5, 2) := by decide +kernel
theorem dX5_read_130 : decode cX5_read 130 = .ok (.ifCond .ne 80, 3) := by decide +kernel
theorem dX5_read_133 : decode cX5_read 133 = .ok (.iload 7, 2) := by decide +kernel
theorem dX5_read_135 : decode cX5_read 135 = .ok (.iconst 4, 1) := by decide +kernel
theorem dX5_read_136 : decode cX5_read 136 = .ok (.irem, 1) := by decide +kernel
theorem dX5_read_137 : decode cX5_read 137 = .ok (.iconst 3, 1) := by decide +kernel
theorem dX5_read_138 : decode cX5_read 138 = .ok (.if_icmp .ne 72, 3) := by decide +kernel
theorem dX5_read_141 : decode cX5_read 141 = .ok (.bipush 40, 2) := by decide +kernel
theorem dX5_read_143 : decode cX5_read 143 = .ok (.iload_n 1, 1) := by decide +kernel
theorem dX5_read_144 : decode cX5_read 144 = .ok (.imul, 1) := by decide +kernel
theorem dX5_read_145 : decode cX5_read 145 = .ok (.iload_n 3, 1) := by decide +kernel
theorem dX5_read_146 : decode cX5_read 146 = .ok (.iadd, 1) := by decide +kernel
theorem dX5_read_147 : decode cX5_read 147 = .ok (.iload 7, 2) := by decide +kernel
theorem dX5_read_149 : decode cX5_read 149 = .ok (.iadd, 1) := by decide +kernel
theorem dX5_read_150 : decode cX5_read 150 = .ok (.istore 8, 2) := by decide +kernel
theorem dX5_read_152 : decode cX5_read 152 = .ok (.aload_n 0, 1) := by decide +kernel
theorem dX5_read_153 : decode cX5_read 153 = .ok (.aload_n 0, 1) := by decide +kernel
theorem dX5_read_154 : decode cX5_read 154 = .ok (.getfield 41, 3) := by decide +kernel
theorem dX5_read_157 : decode cX5_read 157 = .ok (.iload 8, 2) := by decide +kernel
theorem dX5_read_159 : decode cX5_read 159 = .ok (.iconst 3, 1) := by decide +kernel
theorem dX5_read_160 : decode cX5_read 160 = .ok (.isub, 1) := by decide +kernel
theorem dX5_read_161 : decode cX5_read 161 = .ok (.iaload, 1) := by decide +kernel
theorem dX5_read_162 : decode cX5_read 162 = .ok (.aload_n 0, 1) := by decide +kernel
theorem dX5_read_163 : decode cX5_read 163 = .ok (.getfield 41, 3) := by decide +kernel
theorem dX5_read_166 : decode cX5_read 166 = .ok (.iload 8, 2) := by decide +kernel
theorem dX5_read_168 : decode cX5_read 168 = .ok (.iconst 2, 1) := by decide +kernel
theorem dX5_read_169 : decode cX5_read 169 = .ok (.isub, 1) := by decide +kernel
theorem dX5_read_170 : decode cX5_read 170 = .ok (.iaload, 1) := by decide +kernel
theorem dX5_read_171 : decode cX5_read 171 = .ok (.aload_n 0, 1) := by decide +kernel
theorem dX5_read_172 : decode cX5_read 172 = .ok (.getfield 41, 3) := by decide +kernel
theorem dX5_read_175 : decode cX5_read 175 = .ok (.iload 8, 2) := by decide +kernel
theorem dX5_read_177 : decode cX5_read 177 = .ok (.iconst 1, 1) := by decide +kernel
theorem dX5_read_178 : decode cX5_read 178 = .ok (.isub, 1) := by decide +kernel
theorem dX5_read_179 : decode cX5_read 179 = .ok (.iaload, 1) := by decide +kernel
theorem dX5_read_180 : decode cX5_read 180 = .ok (.aload_n 0, 1) := by decide +kernel
theorem dX5_read_181 : decode cX5_read 181 = .ok (.getfield 41, 3) := by decide +kernel
theorem dX5_read_184 : decode cX5_read 184 = .ok (.iload 8, 2) := by decide +kernel
theorem dX5_read_186 : decode cX5_read 186 = .ok (.iaload, 1) := by decide +kernel
theorem dX5_read_187 : decode cX5_read 187 = .ok (.invokevirtual 208, 3) := by decide +kernel
theorem dX5_read_190 : decode cX5_read 190 = .ok (.ifCond .ge 17, 3) := by decide +kernel
theorem dX5_read_193 : decode cX5_read 193 = .ok (.aload_n 0, 1) := by decide +kernel
theorem dX5_read_194 : decode cX5_read 194 = .ok (.sipush 165, 3) := by decide +kernel
theorem dX5_read_197 : decode cX5_read 197 = .ok (.iconst 0, 1) := by decide +kernel
theorem dX5_read_198 : decode cX5_read 198 = .ok (.invokevirtual 216, 3) := by decide +kernel
theorem dX5_read_201 : decode cX5_read 201 = .ok (.bipush (-20), 2) := by decide +kernel
theorem dX5_read_203 : decode cX5_read 203 = .ok (.iload 6, 2) := by decide +kernel
theorem dX5_read_205 : decode cX5_read 205 = .ok (.isub, 1) := by decide +kernel
theorem dX5_read_206 : decode cX5_read 206 = .ok (.ireturn, 1) := by decide +kernel
theorem dX5_read_207 : decode cX5_read 207 = .ok (.iinc 6 1, 3) := by decide +kernel
theorem dX5_read_210 : decode cX5_read 210 = .ok (.iinc 7 1, 3) := by decide +kernel
theorem dX5_read_213 : decode cX5_read 213 = .ok (.goto (-157), 3) := by decide +kernel
theorem dX5_read_216 : decode cX5_read 216 = .ok (.aload_n 0, 1) := by decide +kernel
theorem dX5_read_217 : decode cX5_read 217 = .ok (.iload 5, 2) := by decide +kernel
theorem dX5_read_219 : decode cX5_read 219 = .ok (.putfield 264, 3) := by decide +kernel
theorem dX5_read_222 : decode cX5_read 222 = .ok (.iload 6, 2) := by decide +kernel
theorem dX5_read_224 : decode cX5_read 224 = .ok (.ireturn, 1) := by decide +kernel
theorem dX5_torn_0 : decode cX5_torn 0 = .ok (.aload_n 0, 1) := by decide +kernel
theorem dX5_torn_1 : decode cX5_torn 1 = .ok (.getfield 264, 3) := by decide +kernel
theorem dX5_torn_4 : decode cX5_torn 4 = .ok (.ireturn, 1) := by decide +kernel
theorem dX5_count_0 : decode cX5_count 0 = .ok (.iconst 0, 1) := by decide +kernel
theorem dX5_count_1 : decode cX5_count 1 = .ok (.istore_n 2, 1) := by decide +kernel
theorem dX5_count_2 : decode cX5_count 2 = .ok (.iconst 0, 1) := by decide +kernel
theorem dX5_count_3 : decode cX5_count 3 = .ok (.istore_n 3, 1) := by decide +kernel
theorem dX5_count_4 : decode cX5_count 4 = .ok (.iconst 0, 1) := by decide +kernel
theorem dX5_count_5 : decode cX5_count 5 = .ok (.istore 4, 2) := by decide +kernel
theorem dX5_count_7 : decode cX5_count 7 = .ok (.iload 4, 2) := by decide +kernel
theorem dX5_count_9 : decode cX5_count 9 = .ok (.aload_n 0, 1) := by decide +kernel
theorem dX5_count_10 : decode cX5_count 10 = .ok (.getfield 131, 3) := by decide +kernel
theorem dX5_count_13 : decode cX5_count 13 = .ok (.if_icmp .ge 22, 3) := by decide +kernel
theorem dX5_count_16 : decode cX5_count 16 = .ok (.iload_n 2, 1) := by decide +kernel
theorem dX5_count_17 : decode cX5_count 17 = .ok (.aload_n 0, 1) := by decide +kernel
theorem dX5_count_18 : decode cX5_count 18 = .ok (.getfield 7, 3) := by decide +kernel
theorem dX5_count_21 : decode cX5_count 21 = .ok (.bipush 10, 2) := by decide +kernel
theorem dX5_count_23 : decode cX5_count 23 = .ok (.iload 4, 2) := by decide +kernel
theorem dX5_count_25 : decode cX5_count 25 = .ok (.iadd, 1) := by decide +kernel
theorem dX5_count_26 : decode cX5_count 26 = .ok (.iaload, 1) := by decide +kernel
theorem dX5_count_27 : decode cX5_count 27 = .ok (.iadd, 1) := by decide +kernel
theorem dX5_count_28 : decode cX5_count 28 = .ok (.istore_n 2, 1) := by decide +kernel
theorem dX5_count_29 : decode cX5_count 29 = .ok (.iinc 4 1, 3) := by decide +kernel
theorem dX5_count_32 : decode cX5_count 32 = .ok (.goto (-25), 3) := by decide +kernel
theorem dX5_count_35 : decode cX5_count 35 = .ok (.iconst 0, 1) := by decide +kernel
theorem dX5_count_36 : decode cX5_count 36 = .ok (.istore 4, 2) := by decide +kernel
theorem dX5_count_38 : decode cX5_count 38 = .ok (.iload 4, 2) := by decide +kernel
theorem dX5_count_40 : decode cX5_count 40 = .ok (.iconst 4, 1) := by decide +kernel
theorem dX5_count_41 : decode cX5_count 41 = .ok (.if_icmp .ge 24, 3) := by decide +kernel
theorem dX5_count_44 : decode cX5_count 44 = .ok (.iload_n 3, 1) := by decide +kernel
theorem dX5_count_45 : decode cX5_count 45 = .ok (.aload_n 0, 1) := by decide +kernel
theorem dX5_count_46 : decode cX5_count 46 = .ok (.getfield 7, 3) := by decide +kernel
theorem dX5_count_49 : decode cX5_count 49 = .ok (.bipush 16, 2) := by decide +kernel
theorem dX5_count_51 : decode cX5_count 51 = .ok (.iload 4, 2) := by decide +kernel
theorem dX5_count_53 : decode cX5_count 53 = .ok (.iadd, 1) := by decide +kernel
theorem dX5_count_54 : decode cX5_count 54 = .ok (.iaload, 1) := by decide +kernel
theorem dX5_count_55 : decode cX5_count 55 = .ok (.iconst 1, 1) := by decide +kernel
theorem dX5_count_56 : decode cX5_count 56 = .ok (.iadd, 1) := by decide +kernel
theorem dX5_count_57 : decode cX5_count 57 = .ok (.iadd, 1) := by decide +kernel
theorem dX5_count_58 : decode cX5_count 58 = .ok (.istore_n 3, 1) := by decide +kernel
theorem dX5_count_59 : decode cX5_count 59 = .ok (.iinc 4 1, 3) := by decide +kernel
theorem dX5_count_62 : decode cX5_count 62 = .ok (.goto (-24), 3) := by decide +kernel
theorem dX5_count_65 : decode cX5_count 65 = .ok (.iload_n 1, 1) := by decide +kernel
theorem dX5_count_66 : decode cX5_count 66 = .ok (.tableswitch 105 0 5 #[38, 43, 73, 78, 101, 103], 38) := by decide +kernel
theorem dX5_count_104 : decode cX5_count 104 = .ok (.aload_n 0, 1) := by decide +kernel
theorem dX5_count_105 : decode cX5_count 105 = .ok (.getfield 134, 3) := by decide +kernel
theorem dX5_count_108 : decode cX5_count 108 = .ok (.ireturn, 1) := by decide +kernel
theorem dX5_count_109 : decode cX5_count 109 = .ok (.aload_n 0, 1) := by decide +kernel
theorem dX5_count_110 : decode cX5_count 110 = .ok (.getfield 31, 3) := by decide +kernel
theorem dX5_count_113 : decode cX5_count 113 = .ok (.iconst 0, 1) := by decide +kernel
theorem dX5_count_114 : decode cX5_count 114 = .ok (.baload, 1) := by decide +kernel
theorem dX5_count_115 : decode cX5_count 115 = .ok (.ifCond .eq 7, 3) := by decide +kernel
theorem dX5_count_118 : decode cX5_count 118 = .ok (.iconst 1, 1) := by decide +kernel
theorem dX5_count_119 : decode cX5_count 119 = .ok (.goto 4, 3) := by decide +kernel
theorem dX5_count_122 : decode cX5_count 122 = .ok (.iconst 0, 1) := by decide +kernel
theorem dX5_count_123 : decode cX5_count 123 = .ok (.aload_n 0, 1) := by decide +kernel
theorem dX5_count_124 : decode cX5_count 124 = .ok (.getfield 31, 3) := by decide +kernel
theorem dX5_count_127 : decode cX5_count 127 = .ok (.iconst 1, 1) := by decide +kernel
theorem dX5_count_128 : decode cX5_count 128 = .ok (.baload, 1) := by decide +kernel
theorem dX5_count_129 : decode cX5_count 129 = .ok (.ifCond .eq 7, 3) := by decide +kernel
theorem dX5_count_132 : decode cX5_count 132 = .ok (.iconst 1, 1) := by decide +kernel
theorem dX5_count_133 : decode cX5_count 133 = .ok (.goto 4, 3) := by decide +kernel
theorem dX5_count_136 : decode cX5_count 136 = .ok (.iconst 0, 1) := by decide +kernel
theorem dX5_count_137 : decode cX5_count 137 = .ok (.iadd, 1) := by decide +kernel
theorem dX5_count_138 : decode cX5_count 138 = .ok (.ireturn, 1) := by decide +kernel
theorem dX5_count_139 : decode cX5_count 139 = .ok (.aload_n 0, 1) := by decide +kernel
theorem dX5_count_140 : decode cX5_count 140 = .ok (.getfield 50, 3) := by decide +kernel
theorem dX5_count_143 : decode cX5_count 143 = .ok (.ireturn, 1) := by decide +kernel
theorem dX5_count_144 : decode cX5_count 144 = .ok (.aload_n 0, 1) := by decide +kernel
theorem dX5_count_145 : decode cX5_count 145 = .ok (.getfield 35, 3) := by decide +kernel
theorem dX5_count_148 : decode cX5_count 148 = .ok (.iconst 0, 1) := by decide +kernel
theorem dX5_count_149 : decode cX5_count 149 = .ok (.iaload, 1) := by decide +kernel
theorem dX5_count_150 : decode cX5_count 150 = .ok (.bipush (-4), 2) := by decide +kernel
theorem dX5_count_152 : decode cX5_count 152 = .ok (.if_icmp .ne 8, 3) := by decide +kernel
theorem dX5_count_155 : decode cX5_count 155 = .ok (.bipush (-4), 2) := by decide +kernel
theorem dX5_count_157 : decode cX5_count 157 = .ok (.goto 9, 3) := by decide +kernel
theorem dX5_count_160 : decode cX5_count 160 = .ok (.aload_n 0, 1) := by decide +kernel
theorem dX5_count_161 : decode cX5_count 161 = .ok (.getfield 38, 3) := by decide +kernel
theorem dX5_count_164 : decode cX5_count 164 = .ok (.iconst 0, 1) := by decide +kernel
theorem dX5_count_165 : decode cX5_count 165 = .ok (.iaload, 1) := by decide +kernel
theorem dX5_count_166 : decode cX5_count 166 = .ok (.ireturn, 1) := by decide +kernel
theorem dX5_count_167 : decode cX5_count 167 = .ok (.iload_n 2, 1) := by decide +kernel
theorem dX5_count_168 : decode cX5_count 168 = .ok (.ireturn, 1) := by decide +kernel
theorem dX5_count_169 : decode cX5_count 169 = .ok (.iload_n 3, 1) := by decide +kernel
theorem dX5_count_170 : decode cX5_count 170 = .ok (.ireturn, 1) := by decide +kernel
theorem dX5_count_171 : decode cX5_count 171 = .ok (.iconst (-1), 1) := by decide +kernel
theorem dX5_count_172 : decode cX5_count 172 = .ok (.ireturn, 1) := by decide +kernel
