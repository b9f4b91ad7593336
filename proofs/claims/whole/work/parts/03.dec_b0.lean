theorem dX4_init_0 : decode cX4_init 0 = .ok (.aload_n 0, 1) := by decide +kernel
theorem dX4_init_1 : decode cX4_init 1 = .ok (.invokespecial 1, 3) := by decide +kernel
theorem dX4_init_4 : decode cX4_init 4 = .ok (.aload_n 0, 1) := by decide +kernel
theorem dX4_init_5 : decode cX4_init 5 = .ok (.new 7, 3) := by decide +kernel
theorem dX4_init_8 : decode cX4_init 8 = .ok (.dup, 1) := by decide +kernel
theorem dX4_init_9 : decode cX4_init 9 = .ok (.invokespecial 9, 3) := by decide +kernel
theorem dX4_init_12 : decode cX4_init 12 = .ok (.putfield 10, 3) := by decide +kernel
theorem dX4_init_15 : decode cX4_init 15 = .ok (.aload_n 0, 1) := by decide +kernel
theorem dX4_init_16 : decode cX4_init 16 = .ok (.new 7, 3) := by decide +kernel
theorem dX4_init_19 : decode cX4_init 19 = .ok (.dup, 1) := by decide +kernel
theorem dX4_init_20 : decode cX4_init 20 = .ok (.invokespecial 9, 3) := by decide +kernel
theorem dX4_init_23 : decode cX4_init 23 = .ok (.putfield 16, 3) := by decide +kernel
theorem dX4_init_26 : decode cX4_init 26 = .ok (.aload_n 0, 1) := by decide +kernel
theorem dX4_init_27 : decode cX4_init 27 = .ok (.new 7, 3) := by decide +kernel
theorem dX4_init_30 : decode cX4_init 30 = .ok (.dup, 1) := by decide +kernel
theorem dX4_init_31 : decode cX4_init 31 = .ok (.invokespecial 9, 3) := by decide +kernel
theorem dX4_init_34 : decode cX4_init 34 = .ok (.putfield 19, 3) := by decide +kernel
theorem dX4_init_37 : decode cX4_init 37 = .ok (.aload_n 0, 1) := by decide +kernel
theorem dX4_init_38 : decode cX4_init 38 = .ok (.new 7, 3) := by decide +kernel
theorem dX4_init_41 : decode cX4_init 41 = .ok (.dup, 1) := by decide +kernel
theorem dX4_init_42 : decode cX4_init 42 = .ok (.invokespecial 9, 3) := by decide +kernel
theorem dX4_init_45 : decode cX4_init 45 = .ok (.putfield 22, 3) := by decide +kernel
theorem dX4_init_48 : decode cX4_init 48 = .ok (.aload_n 0, 1) := by decide +kernel
theorem dX4_init_49 : decode cX4_init 49 = .ok (.new 25, 3) := by decide +kernel
theorem dX4_init_52 : decode cX4_init 52 = .ok (.dup, 1) := by decide +kernel
theorem dX4_init_53 : decode cX4_init 53 = .ok (.invokespecial 27, 3) := by decide +kernel
theorem dX4_init_56 : decode cX4_init 56 = .ok (.putfield 28, 3) := by decide +kernel
theorem dX4_init_59 : decode cX4_init 59 = .ok (.aload_n 0, 1) := by decide +kernel
theorem dX4_init_60 : decode cX4_init 60 = .ok (.new 32, 3) := by decide +kernel
theorem dX4_init_63 : decode cX4_init 63 = .ok (.dup, 1) := by decide +kernel
theorem dX4_init_64 : decode cX4_init 64 = .ok (.invokespecial 34, 3) := by decide +kernel
theorem dX4_init_67 : decode cX4_init 67 = .ok (.putfield 35, 3) := by decide +kernel
theorem dX4_init_70 : decode cX4_init 70 = .ok (.aload_n 0, 1) := by decide +kernel
theorem dX4_init_71 : decode cX4_init 71 = .ok (.new 39, 3) := by decide +kernel
theorem dX4_init_74 : decode cX4_init 74 = .ok (.dup, 1) := by decide +kernel
theorem dX4_init_75 : decode cX4_init 75 = .ok (.invokespecial 41, 3) := by decide +kernel
theorem dX4_init_78 : decode cX4_init 78 = .ok (.putfield 42, 3) := by decide +kernel
theorem dX4_init_81 : decode cX4_init 81 = .ok (.return_, 1) := by decide +kernel
theorem dX4_feed_0 : decode cX4_feed 0 = .ok (.iload_n 1, 1) := by decide +kernel
theorem dX4_feed_1 : decode cX4_feed 1 = .ok (.iconst 0, 1) := by decide +kernel
theorem dX4_feed_2 : decode cX4_feed 2 = .ok (.bipush 127, 2) := by decide +kernel
theorem dX4_feed_4 : decode cX4_feed 4 = .ok (.invokestatic 46, 3) := by decide +kernel
theorem dX4_feed_7 : decode cX4_feed 7 = .ok (.ifCond .ne 5, 3) := by decide +kernel
theorem dX4_feed_10 : decode cX4_feed 10 = .ok (.iconst (-1), 1) := by decide +kernel
theorem dX4_feed_11 : decode cX4_feed 11 = .ok (.ireturn, 1) := by decide +kernel
theorem dX4_feed_12 : decode cX4_feed 12 = .ok (.aload_n 0, 1) := by decide +kernel
theorem dX4_feed_13 : decode cX4_feed 13 = .ok (.getfield 28, 3) := by decide +kernel
theorem dX4_feed_16 : decode cX4_feed 16 = .ok (.iload_n 1, 1) := by decide +kernel
theorem dX4_feed_17 : decode cX4_feed 17 = .ok (.invokevirtual 50, 3) := by decide +kernel
theorem dX4_feed_20 : decode cX4_feed 20 = .ok (.ifCond .eq 13, 3) := by decide +kernel
theorem dX4_feed_23 : decode cX4_feed 23 = .ok (.aload_n 0, 1) := by decide +kernel
theorem dX4_feed_24 : decode cX4_feed 24 = .ok (.getfield 28, 3) := by decide +kernel
theorem dX4_feed_27 : decode cX4_feed 27 = .ok (.getfield 54, 3) := by decide +kernel
theorem dX4_feed_30 : decode cX4_feed 30 = .ok (.goto 5, 3) := by decide +kernel
theorem dX4_feed_33 : decode cX4_feed 33 = .ok (.bipush (-3), 2) := by decide +kernel
theorem dX4_feed_35 : decode cX4_feed 35 = .ok (.ireturn, 1) := by decide +kernel
theorem dX4_end_0 : decode cX4_end 0 = .ok (.iload_n 1, 1) := by decide +kernel
theorem dX4_end_1 : decode cX4_end 1 = .ok (.iconst 0, 1) := by decide +kernel
theorem dX4_end_2 : decode cX4_end 2 = .ok (.aload_n 0, 1) := by decide +kernel
theorem dX4_end_3 : decode cX4_end 3 = .ok (.getfield 28, 3) := by decide +kernel
theorem dX4_end_6 : decode cX4_end 6 = .ok (.getfield 54, 3) := by decide +kernel
theorem dX4_end_9 : decode cX4_end 9 = .ok (.invokestatic 46, 3) := by decide +kernel
theorem dX4_end_12 : decode cX4_end 12 = .ok (.ifCond .ne 5, 3) := by decide +kernel
theorem dX4_end_15 : decode cX4_end 15 = .ok (.iconst (-1), 1) := by decide +kernel
theorem dX4_end_16 : decode cX4_end 16 = .ok (.ireturn, 1) := by decide +kernel
theorem dX4_end_17 : decode cX4_end 17 = .ok (.aload_n 0, 1) := by decide +kernel
theorem dX4_end_18 : decode cX4_end 18 = .ok (.getfield 28, 3) := by decide +kernel
theorem dX4_end_21 : decode cX4_end 21 = .ok (.getfield 54, 3) := by decide +kernel
theorem dX4_end_24 : decode cX4_end 24 = .ok (.istore_n 2, 1) := by decide +kernel
theorem dX4_end_25 : decode cX4_end 25 = .ok (.aload_n 0, 1) := by decide +kernel
theorem dX4_end_26 : decode cX4_end 26 = .ok (.getfield 28, 3) := by decide +kernel
theorem dX4_end_29 : decode cX4_end 29 = .ok (.iload_n 1, 1) := by decide +kernel
theorem dX4_end_30 : decode cX4_end 30 = .ok (.putfield 54, 3) := by decide +kernel
theorem dX4_end_33 : decode cX4_end 33 = .ok (.iload_n 2, 1) := by decide +kernel
theorem dX4_end_34 : decode cX4_end 34 = .ok (.ireturn, 1) := by decide +kernel
theorem dX4_text_0 : decode cX4_text 0 = .ok (.aload_n 0, 1) := by decide +kernel
theorem dX4_text_1 : decode cX4_text 1 = .ok (.getfield 28, 3) := by decide +kernel
theorem dX4_text_4 : decode cX4_text 4 = .ok (.aload_n 0, 1) := by decide +kernel
theorem dX4_text_5 : decode cX4_text 5 = .ok (.getfield 16, 3) := by decide +kernel
theorem dX4_text_8 : decode cX4_text 8 = .ok (.invokevirtual 58, 3) := by decide +kernel
theorem dX4_text_11 : decode cX4_text 11 = .ok (.aload_n 0, 1) := by decide +kernel
theorem dX4_text_12 : decode cX4_text 12 = .ok (.getfield 28, 3) := by decide +kernel
theorem dX4_text_15 : decode cX4_text 15 = .ok (.iconst 0, 1) := by decide +kernel
theorem dX4_text_16 : decode cX4_text 16 = .ok (.putfield 54, 3) := by decide +kernel
theorem dX4_text_19 : decode cX4_text 19 = .ok (.aload_n 0, 1) := by decide +kernel
theorem dX4_text_20 : decode cX4_text 20 = .ok (.aload_n 0, 1) := by decide +kernel
theorem dX4_text_21 : decode cX4_text 21 = .ok (.getfield 28, 3) := by decide +kernel
theorem dX4_text_24 : decode cX4_text 24 = .ok (.getfield 62, 3) := by decide +kernel
theorem dX4_text_27 : decode cX4_text 27 = .ok (.putfield 65, 3) := by decide +kernel
theorem dX4_text_30 : decode cX4_text 30 = .ok (.aload_n 0, 1) := by decide +kernel
theorem dX4_text_31 : decode cX4_text 31 = .ok (.getfield 65, 3) := by decide +kernel
theorem dX4_text_34 : decode cX4_text 34 = .ok (.ifCond .eq 14, 3) := by decide +kernel
theorem dX4_text_37 : decode cX4_text 37 = .ok (.bipush (-10), 2) := by decide +kernel
theorem dX4_text_39 : decode cX4_text 39 = .ok (.aload_n 0, 1) := by decide +kernel
theorem dX4_text_40 : decode cX4_text 40 = .ok (.getfield 28, 3) := by decide +kernel
theorem dX4_text_43 : decode cX4_text 43 = .ok (.getfield 68, 3) := by decide +kernel
theorem dX4_text_46 : decode cX4_text 46 = .ok (.isub, 1) := by decide +kernel
theorem dX4_text_47 : decode cX4_text 47 = .ok (.ireturn, 1) := by decide +kernel
theorem dX4_text_48 : decode cX4_text 48 = .ok (.aload_n 0, 1) := by decide +kernel
theorem dX4_text_49 : decode cX4_text 49 = .ok (.getfield 10, 3) := by decide +kernel
theorem dX4_text_52 : decode cX4_text 52 = .ok (.aload_n 0, 1) := by decide +kernel
theorem dX4_text_53 : decode cX4_text 53 = .ok (.getfield 16, 3) := by decide +kernel
theorem dX4_text_56 : decode cX4_text 56 = .ok (.invokevirtual 71, 3) := by decide +kernel
theorem dX4_text_59 : decode cX4_text 59 = .ok (.aload_n 0, 1) := by decide +kernel
theorem dX4_text_60 : decode cX4_text 60 = .ok (.getfield 35, 3) := by decide +kernel
theorem dX4_text_63 : decode cX4_text 63 = .ok (.iconst 0, 1) := by decide +kernel
theorem dX4_text_64 : decode cX4_text 64 = .ok (.putfield 74, 3) := by decide +kernel
theorem dX4_text_67 : decode cX4_text 67 = .ok (.aload_n 0, 1) := by decide +kernel
theorem dX4_text_68 : decode cX4_text 68 = .ok (.iconst 0, 1) := by decide +kernel
theorem dX4_text_69 : decode cX4_text 69 = .ok (.putfield 77, 3) := by decide +kernel
theorem dX4_text_72 : decode cX4_text 72 = .ok (.aload_n 0, 1) := by decide +kernel
theorem dX4_text_73 : decode cX4_text 73 = .ok (.getfield 28, 3) := by decide +kernel
theorem dX4_text_76 : decode cX4_text 76 = .ok (.getfield 80, 3) := by decide +kernel
theorem dX4_text_79 : decode cX4_text 79 = .ok (.ireturn, 1) := by decide +kernel
theorem dX4_fault_0 : decode cX4_fault 0 = .ok (.aload_n 0, 1) := by decide +kernel
theorem dX4_fault_1 : decode cX4_fault 1 = .ok (.getfield 65, 3) := by decide +kernel
theorem dX4_fault_4 : decode cX4_fault 4 = .ok (.ireturn, 1) := by decide +kernel
theorem dX4_rule_0 : decode cX4_rule 0 = .ok (.iload_n 1, 1) := by decide +kernel
theorem dX4_rule_1 : decode cX4_rule 1 = .ok (.tableswitch 99 0 6 #[43, 51, 59, 67, 75, 83, 91], 43) := by decide +kernel
theorem dX4_rule_44 : decode cX4_rule 44 = .ok (.aload_n 0, 1) := by decide +kernel
theorem dX4_rule_45 : decode cX4_rule 45 = .ok (.getfield 10, 3) := by decide +kernel
theorem dX4_rule_48 : decode cX4_rule 48 = .ok (.getfield 83, 3) := by decide +kernel
theorem dX4_rule_51 : decode cX4_rule 51 = .ok (.ireturn, 1) := by decide +kernel
theorem dX4_rule_52 : decode cX4_rule 52 = .ok (.aload_n 0, 1) := by decide +kernel
theorem dX4_rule_53 : decode cX4_rule 53 = .ok (.getfield 10, 3) := by decide +kernel
theorem dX4_rule_56 : decode cX4_rule 56 = .ok (.getfield 86, 3) := by decide +kernel
theorem dX4_rule_59 : decode cX4_rule 59 = .ok (.ireturn, 1) := by decide +kernel
theorem dX4_rule_60 : decode cX4_rule 60 = .ok (.aload_n 0, 1) := by decide +kernel
theorem dX4_rule_61 : decode cX4_rule 61 = .ok (.getfield 10, 3) := by decide +kernel
theorem dX4_rule_64 : decode cX4_rule 64 = .ok (.getfield 89, 3) := by decide +kernel
theorem dX4_rule_67 : decode cX4_rule 67 = .ok (.ireturn, 1) := by decide +kernel
theorem dX4_rule_68 : decode cX4_rule 68 = .ok (.aload_n 0, 1) := by decide +kernel
theorem dX4_rule_69 : decode cX4_rule 69 = .ok (.getfield 10, 3) := by decide +kernel
theorem dX4_rule_72 : decode cX4_rule 72 = .ok (.getfield 92, 3) := by decide +kernel
theorem dX4_rule_75 : decode cX4_rule 75 = .ok (.ireturn, 1) := by decide +kernel
theorem dX4_rule_76 : decode cX4_rule 76 = .ok (.aload_n 0, 1) := by decide +kernel
theorem dX4_rule_77 : decode cX4_rule 77 = .ok (.getfield 10, 3) := by decide +kernel
theorem dX4_rule_80 : decode cX4_rule 80 = .ok (.getfield 95, 3) := by decide +kernel
theorem dX4_rule_83 : decode cX4_rule 83 = .ok (.ireturn, 1) := by decide +kernel
theorem dX4_rule_84 : decode cX4_rule 84 = .ok (.aload_n 0, 1) := by decide +kernel
theorem dX4_rule_85 : decode cX4_rule 85 = .ok (.getfield 10, 3) := by decide +kernel
theorem dX4_rule_88 : decode cX4_rule 88 = .ok (.invokevirtual 98, 3) := by decide +kernel
theorem dX4_rule_91 : decode cX4_rule 91 = .ok (.ireturn, 1) := by decide +kernel
theorem dX4_rule_92 : decode cX4_rule 92 = .ok (.aload_n 0, 1) := by decide +kernel
theorem dX4_rule_93 : decode cX4_rule 93 = .ok (.getfield 10, 3) := by decide +kernel
theorem dX4_rule_96 : decode cX4_rule 96 = .ok (.invokevirtual 102, 3) := by decide +kernel
theorem dX4_rule_99 : decode cX4_rule 99 = .ok (.ireturn, 1) := by decide +kernel
theorem dX4_rule_100 : decode cX4_rule 100 = .ok (.iconst (-1), 1) := by decide +kernel
theorem dX4_rule_101 : decode cX4_rule 101 = .ok (.ireturn, 1) := by decide +kernel
theorem dX4_rider_0 : decode cX4_rider 0 = .ok (.aload_n 0, 1) := by decide +kernel
theorem dX4_rider_1 : decode cX4_rider 1 = .ok (.iload_n 1, 1) := by decide +kernel
theorem dX4_rider_2 : decode cX4_rider 2 = .ok (.invokevirtual 105, 3) := by decide +kernel
theorem dX4_rider_5 : decode cX4_rider 5 = .ok (.ifCond .ne 5, 3) := by decide +kernel
theorem dX4_rider_8 : decode cX4_rider 8 = .ok (.iconst (-1), 1) := by decide +kernel
theorem dX4_rider_9 : decode cX4_rider 9 = .ok (.ireturn, 1) := by decide +kernel
theorem dX4_rider_10 : decode cX4_rider 10 = .ok (.iload_n 2, 1) := by decide +kernel
theorem dX4_rider_11 : decode cX4_rider 11 = .ok (.tableswitch 126 0 5 #[37, 47, 57, 67, 76, 92], 37) := by decide +kernel
theorem dX4_rider_48 : decode cX4_rider 48 = .ok (.aload_n 0, 1) := by decide +kernel
theorem dX4_rider_49 : decode cX4_rider 49 = .ok (.getfield 10, 3) := by decide +kernel
theorem dX4_rider_52 : decode cX4_rider 52 = .ok (.getfield 108, 3) := by decide +kernel
theorem dX4_rider_55 : decode cX4_rider 55 = .ok (.iload_n 1, 1) := by decide +kernel
theorem dX4_rider_56 : decode cX4_rider 56 = .ok (.iaload, 1) := by decide +kernel
theorem dX4_rider_57 : decode cX4_rider 57 = .ok (.ireturn, 1) := by decide +kernel
theorem dX4_rider_58 : decode cX4_rider 58 = .ok (.aload_n 0, 1) := by decide +kernel
theorem dX4_rider_59 : decode cX4_rider 59 = .ok (.getfield 10, 3) := by decide +kernel
theorem dX4_rider_62 : decode cX4_rider 62 = .ok (.getfield 112, 3) := by decide +kernel
theorem dX4_rider_65 : decode cX4_rider 65 = .ok (.iload_n 1, 1) := by decide +kernel
theorem dX4_rider_66 : decode cX4_rider 66 = .ok (.iaload, 1) := by decide +kernel
theorem dX4_rider_67 : decode cX4_rider 67 = .ok (.ireturn, 1) := by decide +kernel
theorem dX4_rider_68 : decode cX4_rider 68 = .ok (.aload_n 0, 1) := by decide +kernel
theorem dX4_rider_69 : decode cX4_rider 69 = .ok (.getfield 10, 3) := by decide +kernel
theorem dX4_rider_72 : decode cX4_rider 72 = .ok (.getfield 115, 3) := by decide +kernel
theorem dX4_rider_75 : decode cX4_rider 75 = .ok (.iload_n 1, 1) := by decide +kernel
theorem dX4_rider_76 : decode cX4_rider 76 = .ok (.iaload, 1) := by decide +kernel
theorem dX4_rider_77 : decode cX4_rider 77 = .ok (.ireturn, 1) := by decide +kernel
theorem dX4_rider_78 : decode cX4_rider 78 = .ok (.aload_n 0, 1) := by decide +kernel
theorem dX4_rider_79 : decode cX4_rider 79 = .ok (.getfield 10, 3) := by decide +kernel
theorem dX4_rider_82 : decode cX4_rider 82 = .ok (.iload_n 1, 1) := by decide +kernel
theorem dX4_rider_83 : decode cX4_rider 83 = .ok (.invokevirtual 118, 3) := by decide +kernel
theorem dX4_rider_86 : decode cX4_rider 86 = .ok (.ireturn, 1) := by decide +kernel
theorem dX4_rider_87 : decode cX4_rider 87 = .ok (.aload_n 0, 1) := by decide +kernel
theorem dX4_rider_88 : decode cX4_rider 88 = .ok (.getfield 10, 3) := by decide +kernel
theorem dX4_rider_91 : decode cX4_rider 91 = .ok (.iload_n 1, 1) := by decide +kernel
theorem dX4_rider_92 : decode cX4_rider 92 = .ok (.aload_n 0, 1) := by decide +kernel
theorem dX4_rider_93 : decode cX4_rider 93 = .ok (.getfield 10, 3) := by decide +kernel
theorem dX4_rider_96 : decode cX4_rider 96 = .ok (.getfield 89, 3) := by decide +kernel
theorem dX4_rider_99 : decode cX4_rider 99 = .ok (.invokevirtual 122, 3) := by decide +kernel
theorem dX4_rider_102 : decode cX4_rider 102 = .ok (.ireturn, 1) := by decide +kernel
theorem dX4_rider_103 : decode cX4_rider 103 = .ok (.aload_n 0, 1) := by decide +kernel
theorem dX4_rider_104 : decode cX4_rider 104 = .ok (.getfield 10, 3) := by decide +kernel
theorem dX4_rider_107 : decode cX4_rider 107 = .ok (.aload_n 0, 1) := by decide +kernel
theorem dX4_rider_108 : decode cX4_rider 108 = .ok (.getfield 10, 3) := by decide +kernel
theorem dX4_rider_111 : decode cX4_rider 111 = .ok (.getfield 112, 3) := by decide +kernel
theorem dX4_rider_114 : decode cX4_rider 114 = .ok (.iload_n 1, 1) := by decide +kernel
theorem dX4_rider_115 : decode cX4_rider 115 = .ok (.iaload, 1) := by decide +kernel
theorem dX4_rider_116 : decode cX4_rider 116 = .ok (.aload_n 0, 1) := by decide +kernel
theorem dX4_rider_117 : decode cX4_rider 117 = .ok (.getfield 10, 3) := by decide +kernel
theorem dX4_rider_120 : decode cX4_rider 120 = .ok (.getfield 115, 3) := by decide +kernel
theorem dX4_rider_123 : decode cX4_rider 123 = .ok (.iload_n 1, 1) := by decide +kernel
theorem dX4_rider_124 : decode cX4_rider 124 = .ok (.iaload, 1) := by decide +kernel
theorem dX4_rider_125 : decode cX4_rider 125 = .ok (.invokevirtual 126, 3) := by decide +kernel
theorem dX4_rider_128 : decode cX4_rider 128 = .ok (.ifCond .eq 7, 3) := by decide +kernel
theorem dX4_rider_131 : decode cX4_rider 131 = .ok (.iconst 1, 1) := by decide +kernel
theorem dX4_rider_132 : decode cX4_rider 132 = .ok (.goto 4, 3) := by decide +kernel
theorem dX4_rider_135 : decode cX4_rider 135 = .ok (.iconst 0, 1) := by decide +kernel
theorem dX4_rider_136 : decode cX4_rider 136 = .ok (.ireturn, 1) := by decide +kernel
theorem dX4_rider_137 : decode cX4_rider 137 = .ok (.iconst (-1), 1) := by decide +kernel
theorem dX4_rider_138 : decode cX4_rider 138 = .ok (.ireturn, 1) := by decide +kernel
theorem dX4_report_0 : decode cX4_report 0 = .ok (.iload_n 1, 1) := by decide +kernel
theorem dX4_report_1 : decode cX4_report 1 = .ok (.iconst 0, 1) := by decide +kernel
theorem dX4_report_2 : decode cX4_report 2 = .ok (.aload_n 0, 1) := by decide +kernel
theorem dX4_report_3 : decode cX4_report 3 = .ok (.getfield 10, 3) := by decide +kernel
theorem dX4_report_6 : decode cX4_report 6 = .ok (.getfield 86, 3) := by decide +kernel
theorem dX4_report_9 : decode cX4_report 9 = .ok (.iconst 1, 1) := by decide +kernel
theorem dX4_report_10 : decode cX4_report 10 = .ok (.isub, 1) := by decide +kernel
theorem dX4_report_11 : decode cX4_report 11 = .ok (.invokestatic 46, 3) := by decide +kernel
theorem dX4_report_14 : decode cX4_report 14 = .ok (.ifCond .ne 5, 3) := by decide +kernel
theorem dX4_report_17 : decode cX4_report 17 = .ok (.iconst (-1), 1) := by decide +kernel
theorem dX4_report_18 : decode cX4_report 18 = .ok (.ireturn, 1) := by decide +kernel
theorem dX4_report_19 : decode cX4_report 19 = .ok (.iload_n 2, 1) := by decide +kernel
theorem dX4_report_20 : decode cX4_report 20 = .ok (.tableswitch 72 0 3 #[32, 42, 52, 62], 32) := by decide +kernel
theorem dX4_report_52 : decode cX4_report 52 = .ok (.aload_n 0, 1) := by decide +kernel
theorem dX4_report_53 : decode cX4_report 53 = .ok (.getfield 10, 3) := by decide +kernel
theorem dX4_report_56 : decode cX4_report 56 = .ok (.getfield 130, 3) := by decide +kernel
theorem dX4_report_59 : decode cX4_report 59 = .ok (.iload_n 1, 1) := by decide +kernel
theorem dX4_report_60 : decode cX4_report 60 = .ok (.iaload, 1) := by decide +kernel
theorem dX4_report_61 : decode cX4_report 61 = .ok (.ireturn, 1) := by decide +kernel
theorem dX4_report_62 : decode cX4_report 62 = .ok (.aload_n 0, 1) := by decide +kernel
theorem dX4_report_63 : decode cX4_report 63 = .ok (.getfield 10, 3) := by decide +kernel
theorem dX4_report_66 : decode cX4_report 66 = .ok (.getfield 133, 3) := by decide +kernel
theorem dX4_report_69 : decode cX4_report 69 = .ok (.iload_n 1, 1) := by decide +kernel
theorem dX4_report_70 : decode cX4_report 70 = .ok (.iaload, 1) := by decide +kernel
theorem dX4_report_71 : decode cX4_report 71 = .ok (.ireturn, 1) := by decide +kernel
theorem dX4_report_72 : decode cX4_report 72 = .ok (.aload_n 0, 1) := by decide +kernel
theorem dX4_report_73 : decode cX4_report 73 = .ok (.getfield 10, 3) := by decide +kernel
theorem dX4_report_76 : decode cX4_report 76 = .ok (.getfield 136, 3) := by decide +kernel
theorem dX4_report_79 : decode cX4_report 79 = .ok (.iload_n 1, 1) := by decide +kernel
theorem dX4_report_80 : decode cX4_report 80 = .ok (.iaload, 1) := by decide +kernel
theorem dX4_report_81 : decode cX4_report 81 = .ok (.ireturn, 1) := by decide +kernel
theorem dX4_report_82 : decode cX4_report 82 = .ok (.aload_n 0, 1) := by decide +kernel
theorem dX4_report_83 : decode cX4_report 83 = .ok (.getfield 10, 3) := by decide +kernel
theorem dX4_report_86 : decode cX4_report 86 = .ok (.getfield 139, 3) := by decide +kernel
theorem dX4_report_89 : decode cX4_report 89 = .ok (.iload_n 1, 1) := by decide +kernel
theorem dX4_report_90 : decode cX4_report 90 = .ok (.iaload, 1) := by decide +kernel
theorem dX4_report_91 : decode cX4_report 91 = .ok (.ireturn, 1) := by decide +kernel
theorem dX4_report_92 : decode cX4_report 92 = .ok (.iconst (-1), 1) := by decide +kernel
theorem dX4_report_93 : decode cX4_report 93 = .ok (.ireturn, 1) := by decide +kernel
theorem dX4_trust_0 : decode cX4_trust 0 = .ok (.iload_n 1, 1) := by decide +kernel
theorem dX4_trust_1 : decode cX4_trust 1 = .ok (.invokestatic 142, 3) := by decide +kernel
theorem dX4_trust_4 : decode cX4_trust 4 = .ok (.ifCond .eq 15, 3) := by decide +kernel
theorem dX4_trust_7 : decode cX4_trust 7 = .ok (.aload_n 0, 1) := by decide +kernel
theorem dX4_trust_8 : decode cX4_trust 8 = .ok (.getfield 10, 3) := by decide +kernel
theorem dX4_trust_11 : decode cX4_trust 11 = .ok (.getfield 145, 3) := by decide +kernel
theorem dX4_trust_14 : decode cX4_trust 14 = .ok (.iload_n 1, 1) := by decide +kernel
theorem dX4_trust_15 : decode cX4_trust 15 = .ok (.iaload, 1) := by decide +kernel
theorem dX4_trust_16 : decode cX4_trust 16 = .ok (.goto 4, 3) := by decide +kernel
theorem dX4_trust_19 : decode cX4_trust 19 = .ok (.iconst (-1), 1) := by decide +kernel
theorem dX4_trust_20 : decode cX4_trust 20 = .ok (.ireturn, 1) := by decide +kernel
theorem dX4_told_0 : decode cX4_told 0 = .ok (.aload_n 0, 1) := by decide +kernel
theorem dX4_told_1 : decode cX4_told 1 = .ok (.iload_n 1, 1) := by decide +kernel
theorem dX4_told_2 : decode cX4_told 2 = .ok (.invokevirtual 105, 3) := by decide +kernel
theorem dX4_told_5 : decode cX4_told 5 = .ok (.ifCond .eq 17, 3) := by decide +kernel
theorem dX4_told_8 : decode cX4_told 8 = .ok (.iload_n 2, 1) := by decide +kernel
theorem dX4_told_9 : decode cX4_told 9 = .ok (.invokestatic 148, 3) := by decide +kernel
theorem dX4_told_12 : decode cX4_told 12 = .ok (.ifCond .eq 10, 3) := by decide +kernel
theorem dX4_told_15 : decode cX4_told 15 = .ok (.iload_n 3, 1) := by decide +kernel
theorem dX4_told_16 : decode cX4_told 16 = .ok (.invokestatic 151, 3) := by decide +kernel
theorem dX4_told_19 : decode cX4_told 19 = .ok (.ifCond .ne 5, 3) := by decide +kernel
theorem dX4_told_22 : decode cX4_told 22 = .ok (.iconst (-1), 1) := by decide +kernel
theorem dX4_told_23 : decode cX4_told 23 = .ok (.ireturn, 1) := by decide +kernel
theorem dX4_told_24 : decode cX4_told 24 = .ok (.aload_n 0, 1) := by decide +kernel
theorem dX4_told_25 : decode cX4_told 25 = .ok (.getfield 10, 3) := by decide +kernel
theorem dX4_told_28 : decode cX4_told 28 = .ok (.iload_n 1, 1) := by decide +kernel
theorem dX4_told_29 : decode cX4_told 29 = .ok (.iload_n 3, 1) := by decide +kernel
theorem dX4_told_30 : decode cX4_told 30 = .ok (.invokevirtual 154, 3) := by decide +kernel
theorem dX4_told_33 : decode cX4_told 33 = .ok (.aload_n 0, 1) := by decide +kernel
theorem dX4_told_34 : decode cX4_told 34 = .ok (.getfield 10, 3) := by decide +kernel
theorem dX4_told_37 : decode cX4_told 37 = .ok (.getfield 158, 3) := by decide +kernel
theorem dX4_told_40 : decode cX4_told 40 = .ok (.iload_n 2, 1) := by decide +kernel
theorem dX4_told_41 : decode cX4_told 41 = .ok (.iaload, 1) := by decide +kernel
theorem dX4_told_42 : decode cX4_told 42 = .ok (.ireturn, 1) := by decide +kernel
theorem dX4_alter_0 : decode cX4_alter 0 = .ok (.aload_n 0, 1) := by decide +kernel
theorem dX4_alter_1 : decode cX4_alter 1 = .ok (.iload_n 1, 1) := by decide +kernel
theorem dX4_alter_2 : decode cX4_alter 2 = .ok (.invokevirtual 105, 3) := by decide +kernel
theorem dX4_alter_5 : decode cX4_alter 5 = .ok (.ifCond .ne 5, 3) := by decide +kernel
theorem dX4_alter_8 : decode cX4_alter 8 = .ok (.iconst (-1), 1) := by decide +kernel
theorem dX4_alter_9 : decode cX4_alter 9 = .ok (.ireturn, 1) := by decide +kernel
theorem dX4_alter_10 : decode cX4_alter 10 = .ok (.iload_n 2, 1) := by decide +kernel
theorem dX4_alter_11 : decode cX4_alter 11 = .ok (.tableswitch 105 0 2 #[25, 51, 78], 25) := by decide +kernel
theorem dX4_alter_36 : decode cX4_alter 36 = .ok (.iload_n 3, 1) := by decide +kernel
theorem dX4_alter_37 : decode cX4_alter 37 = .ok (.iconst 0, 1) := by decide +kernel
theorem dX4_alter_38 : decode cX4_alter 38 = .ok (.iconst 3, 1) := by decide +kernel
theorem dX4_alter_39 : decode cX4_alter 39 = .ok (.invokestatic 46, 3) := by decide +kernel
theorem dX4_alter_42 : decode cX4_alter 42 = .ok (.ifCond .eq 18, 3) := by decide +kernel
theorem dX4_alter_45 : decode cX4_alter 45 = .ok (.aload_n 0, 1) := by decide +kernel
theorem dX4_alter_46 : decode cX4_alter 46 = .ok (.getfield 10, 3) := by decide +kernel
theorem dX4_alter_49 : decode cX4_alter 49 = .ok (.getfield 108, 3) := by decide +kernel
theorem dX4_alter_52 : decode cX4_alter 52 = .ok (.iload_n 1, 1) := by decide +kernel
theorem dX4_alter_53 : decode cX4_alter 53 = .ok (.iload_n 3, 1) := by decide +kernel
theorem dX4_alter_54 : decode cX4_alter 54 = .ok (.invokestatic 161, 3) := by decide +kernel
theorem dX4_alter_57 : decode cX4_alter 57 = .ok (.goto 4, 3) := by decide +kernel
theorem dX4_alter_60 : decode cX4_alter 60 = .ok (.iconst (-1), 1) := by decide +kernel
theorem dX4_alter_61 : decode cX4_alter 61 = .ok (.ireturn, 1) := by decide +kernel
theorem dX4_alter_62 : decode cX4_alter 62 = .ok (.iload_n 3, 1) := by decide +kernel
theorem dX4_alter_63 : decode cX4_alter 63 = .ok (.iconst 0, 1) := by decide +kernel
theorem dX4_alter_64 : decode cX4_alter 64 = .ok (.bipush 15, 2) := by decide +kernel
theorem dX4_alter_66 : decode cX4_alter 66 = .ok (.invokestatic 46, 3) := by decide +kernel
theorem dX4_alter_69 : decode cX4_alter 69 = .ok (.ifCond .eq 18, 3) := by decide +kernel
theorem dX4_alter_72 : decode cX4_alter 72 = .ok (.aload_n 0, 1) := by decide +kernel
theorem dX4_alter_73 : decode cX4_alter 73 = .ok (.getfield 10, 3) := by decide +kernel
theorem dX4_alter_76 : decode cX4_alter 76 = .ok (.getfield 112, 3) := by decide +kernel
theorem dX4_alter_79 : decode cX4_alter 79 = .ok (.iload_n 1, 1) := by decide +kernel
theorem dX4_alter_80 : decode cX4_alter 80 = .ok (.iload_n 3, 1) := by decide +kernel
theorem dX4_alter_81 : decode cX4_alter 81 = .ok (.invokestatic 161, 3) := by decide +kernel
theorem dX4_alter_84 : decode cX4_alter 84 = .ok (.goto 4, 3) := by decide +kernel
theorem dX4_alter_87 : decode cX4_alter 87 = .ok (.iconst (-1), 1) := by decide +kernel
theorem dX4_alter_88 : decode cX4_alter 88 = .ok (.ireturn, 1) := by decide +kernel
theorem dX4_alter_89 : decode cX4_alter 89 = .ok (.iload_n 3, 1) := by decide +kernel
theorem dX4_alter_90 : decode cX4_alter 90 = .ok (.iconst 1, 1) := by decide +kernel
theorem dX4_alter_91 : decode cX4_alter 91 = .ok (.bipush 99, 2) := by decide +kernel
theorem dX4_alter_93 : decode cX4_alter 93 = .ok (.invokestatic 46, 3) := by decide +kernel
theorem dX4_alter_96 : decode cX4_alter 96 = .ok (.ifCond .eq 18, 3) := by decide +kernel
theorem dX4_alter_99 : decode cX4_alter 99 = .ok (.aload_n 0, 1) := by decide +kernel
theorem dX4_alter_100 : decode cX4_alter 100 = .ok (.getfield 10, 3) := by decide +kernel
theorem dX4_alter_103 : decode cX4_alter 103 = .ok (.getfield 115, 3) := by decide +kernel
theorem dX4_alter_106 : decode cX4_alter 106 = .ok (.iload_n 1, 1) := by decide +kernel
theorem dX4_alter_107 : decode cX4_alter 107 = .ok (.iload_n 3, 1) := by decide +kernel
theorem dX4_alter_108 : decode cX4_alter 108 = .ok (.invokestatic 161, 3) := by decide +kernel
theorem dX4_alter_111 : decode cX4_alter 111 = .ok (.goto 4, 3) := by decide +kernel
theorem dX4_alter_114 : decode cX4_alter 114 = .ok (.iconst (-1), 1) := by decide +kernel
theorem dX4_alter_115 : decode cX4_alter 115 = .ok (.ireturn, 1) := by decide +kernel
theorem dX4_alter_116 : decode cX4_alter 116 = .ok (.iconst (-1), 1) := by decide +kernel
theorem dX4_alter_117 : decode cX4_alter 117 = .ok (.ireturn, 1) := by decide +kernel
theorem dX4_rely_0 : decode cX4_rely 0 = .ok (.iload_n 1, 1) := by decide +kernel
theorem dX4_rely_1 : decode cX4_rely 1 = .ok (.invokestatic 142, 3) := by decide +kernel
theorem dX4_rely_4 : decode cX4_rely 4 = .ok (.ifCond .eq 28, 3) := by decide +kernel
theorem dX4_rely_7 : decode cX4_rely 7 = .ok (.iload_n 2, 1) := by decide +kernel
theorem dX4_rely_8 : decode cX4_rely 8 = .ok (.iconst 0, 1) := by decide +kernel
theorem dX4_rely_9 : decode cX4_rely 9 = .ok (.bipush 9, 2) := by decide +kernel
theorem dX4_rely_11 : decode cX4_rely 11 = .ok (.invokestatic 46, 3) := by decide +kernel
theorem dX4_rely_14 : decode cX4_rely 14 = .ok (.ifCond .eq 18, 3) := by decide +kernel
theorem dX4_rely_17 : decode cX4_rely 17 = .ok (.aload_n 0, 1) := by decide +kernel
theorem dX4_rely_18 : decode cX4_rely 18 = .ok (.getfield 10, 3) := by decide +kernel
theorem dX4_rely_21 : decode cX4_rely 21 = .ok (.getfield 145, 3) := by decide +kernel
theorem dX4_rely_24 : decode cX4_rely 24 = .ok (.iload_n 1, 1) := by decide +kernel
theorem dX4_rely_25 : decode cX4_rely 25 = .ok (.iload_n 2, 1) := by decide +kernel
theorem dX4_rely_26 : decode cX4_rely 26 = .ok (.invokestatic 161, 3) := by decide +kernel
theorem dX4_rely_29 : decode cX4_rely 29 = .ok (.goto 4, 3) := by decide +kernel
theorem dX4_rely_32 : decode cX4_rely 32 = .ok (.iconst (-1), 1) := by decide +kernel
theorem dX4_rely_33 : decode cX4_rely 33 = .ok (.ireturn, 1) := by decide +kernel
theorem dX4_cast_0 : decode cX4_cast 0 = .ok (.iload_n 1, 1) := by decide +kernel
theorem dX4_cast_1 : decode cX4_cast 1 = .ok (.iconst 1, 1) := by decide +kernel
theorem dX4_cast_2 : decode cX4_cast 2 = .ok (.bipush 99, 2) := by decide +kernel
theorem dX4_cast_4 : decode cX4_cast 4 = .ok (.invokestatic 46, 3) := by decide +kernel
theorem dX4_cast_7 : decode cX4_cast 7 = .ok (.ifCond .ne 5, 3) := by decide +kernel
theorem dX4_cast_10 : decode cX4_cast 10 = .ok (.iconst (-1), 1) := by decide +kernel
theorem dX4_cast_11 : decode cX4_cast 11 = .ok (.ireturn, 1) := by decide +kernel
theorem dX4_cast_12 : decode cX4_cast 12 = .ok (.aload_n 0, 1) := by decide +kernel
theorem dX4_cast_13 : decode cX4_cast 13 = .ok (.getfield 10, 3) := by decide +kernel
theorem dX4_cast_16 : decode cX4_cast 16 = .ok (.getfield 95, 3) := by decide +kernel
theorem dX4_cast_19 : decode cX4_cast 19 = .ok (.istore_n 2, 1) := by decide +kernel
theorem dX4_cast_20 : decode cX4_cast 20 = .ok (.aload_n 0, 1) := by decide +kernel
theorem dX4_cast_21 : decode cX4_cast 21 = .ok (.getfield 10, 3) := by decide +kernel
theorem dX4_cast_24 : decode cX4_cast 24 = .ok (.iload_n 1, 1) := by decide +kernel
theorem dX4_cast_25 : decode cX4_cast 25 = .ok (.putfield 95, 3) := by decide +kernel
theorem dX4_cast_28 : decode cX4_cast 28 = .ok (.iload_n 2, 1) := by decide +kernel
theorem dX4_cast_29 : decode cX4_cast 29 = .ok (.ireturn, 1) := by decide +kernel
theorem dX4_send_0 : decode cX4_send 0 = .ok (.iload_n 1, 1) := by decide +kernel
theorem dX4_send_1 : decode cX4_send 1 = .ok (.invokestatic 151, 3) := by decide +kernel
theorem dX4_send_4 : decode cX4_send 4 = .ok (.ifCond .eq 26, 3) := by decide +kernel
theorem dX4_send_7 : decode cX4_send 7 = .ok (.iload_n 2, 1) := by decide +kernel
theorem dX4_send_8 : decode cX4_send 8 = .ok (.invokestatic 142, 3) := by decide +kernel
theorem dX4_send_11 : decode cX4_send 11 = .ok (.ifCond .eq 19, 3) := by decide +kernel
theorem dX4_send_14 : decode cX4_send 14 = .ok (.aload_n 0, 1) := by decide +kernel
theorem dX4_send_15 : decode cX4_send 15 = .ok (.iload_n 3, 1) := by decide +kernel
theorem dX4_send_16 : decode cX4_send 16 = .ok (.invokevirtual 105, 3) := by decide +kernel
theorem dX4_send_19 : decode cX4_send 19 = .ok (.ifCond .eq 11, 3) := by decide +kernel
theorem dX4_send_22 : decode cX4_send 22 = .ok (.iload 4, 2) := by decide +kernel
theorem dX4_send_24 : decode cX4_send 24 = .ok (.invokestatic 148, 3) := by decide +kernel
theorem dX4_send_27 : decode cX4_send 27 = .ok (.ifCond .ne 5, 3) := by decide +kernel
theorem dX4_send_30 : decode cX4_send 30 = .ok (.iconst (-1), 1) := by decide +kernel
theorem dX4_send_31 : decode cX4_send 31 = .ok (.ireturn, 1) := by decide +kernel
theorem dX4_send_32 : decode cX4_send 32 = .ok (.aload_n 0, 1) := by decide +kernel
theorem dX4_send_33 : decode cX4_send 33 = .ok (.getfield 10, 3) := by decide +kernel
theorem dX4_send_36 : decode cX4_send 36 = .ok (.iload_n 1, 1) := by decide +kernel
theorem dX4_send_37 : decode cX4_send 37 = .ok (.iload_n 2, 1) := by decide +kernel
theorem dX4_send_38 : decode cX4_send 38 = .ok (.iload_n 3, 1) := by decide +kernel
theorem dX4_send_39 : decode cX4_send 39 = .ok (.iload 4, 2) := by decide +kernel
theorem dX4_send_41 : decode cX4_send 41 = .ok (.invokevirtual 165, 3) := by decide +kernel
theorem dX4_send_44 : decode cX4_send 44 = .ok (.ifCond .eq 13, 3) := by decide +kernel
theorem dX4_send_47 : decode cX4_send 47 = .ok (.aload_n 0, 1) := by decide +kernel
theorem dX4_send_48 : decode cX4_send 48 = .ok (.getfield 10, 3) := by decide +kernel
theorem dX4_send_51 : decode cX4_send 51 = .ok (.getfield 86, 3) := by decide +kernel
theorem dX4_send_54 : decode cX4_send 54 = .ok (.goto 5, 3) := by decide +kernel
theorem dX4_send_57 : decode cX4_send 57 = .ok (.bipush (-3), 2) := by decide +kernel
theorem dX4_send_59 : decode cX4_send 59 = .ok (.ireturn, 1) := by decide +kernel
theorem dX4_burn_0 : decode cX4_burn 0 = .ok (.iload_n 1, 1) := by decide +kernel
theorem dX4_burn_1 : decode cX4_burn 1 = .ok (.iconst 0, 1) := by decide +kernel
theorem dX4_burn_2 : decode cX4_burn 2 = .ok (.aload_n 0, 1) := by decide +kernel
theorem dX4_burn_3 : decode cX4_burn 3 = .ok (.getfield 10, 3) := by decide +kernel
theorem dX4_burn_6 : decode cX4_burn 6 = .ok (.getfield 86, 3) := by decide +kernel
theorem dX4_burn_9 : decode cX4_burn 9 = .ok (.invokestatic 46, 3) := by decide +kernel
theorem dX4_burn_12 : decode cX4_burn 12 = .ok (.ifCond .ne 5, 3) := by decide +kernel
theorem dX4_burn_15 : decode cX4_burn 15 = .ok (.iconst (-1), 1) := by decide +kernel
theorem dX4_burn_16 : decode cX4_burn 16 = .ok (.ireturn, 1) := by decide +kernel
theorem dX4_burn_17 : decode cX4_burn 17 = .ok (.aload_n 0, 1) := by decide +kernel
theorem dX4_burn_18 : decode cX4_burn 18 = .ok (.getfield 10, 3) := by decide +kernel
theorem dX4_burn_21 : decode cX4_burn 21 = .ok (.getfield 86, 3) := by decide +kernel
theorem dX4_burn_24 : decode cX4_burn 24 = .ok (.istore_n 2, 1) := by decide +kernel
theorem dX4_burn_25 : decode cX4_burn 25 = .ok (.aload_n 0, 1) := by decide +kernel
theorem dX4_burn_26 : decode cX4_burn 26 = .ok (.getfield 10, 3) := by decide +kernel
theorem dX4_burn_29 : decode cX4_burn 29 = .ok (.iload_n 1, 1) := by decide +kernel
theorem dX4_burn_30 : decode cX4_burn 30 = .ok (.putfield 86, 3) := by decide +kernel
theorem dX4_burn_33 : decode cX4_burn 33 = .ok (.iload_n 2, 1) := by decide +kernel
theorem dX4_burn_34 : decode cX4_burn 34 = .ok (.ireturn, 1) := by decide +kernel
theorem dX4_days_0 : decode cX4_days 0 = .ok (.iload_n 1, 1) := by decide +kernel
theorem dX4_days_1 : decode cX4_days 1 = .ok (.iconst 0, 1) := by decide +kernel
theorem dX4_days_2 : decode cX4_days 2 = .ok (.bipush 30, 2) := by decide +kernel
theorem dX4_days_4 : decode cX4_days 4 = .ok (.invokestatic 46, 3) := by decide +kernel
theorem dX4_days_7 : decode cX4_days 7 = .ok (.ifCond .ne 5, 3) := by decide +kernel
theorem dX4_days_10 : decode cX4_days 10 = .ok (.iconst (-1), 1) := by decide +kernel
theorem dX4_days_11 : decode cX4_days 11 = .ok (.ireturn, 1) := by decide +kernel
theorem dX4_days_12 : decode cX4_days 12 = .ok (.aload_n 0, 1) := by decide +kernel
theorem dX4_days_13 : decode cX4_days 13 = .ok (.getfield 10, 3) := by decide +kernel
theorem dX4_days_16 : decode cX4_days 16 = .ok (.getfield 89, 3) := by decide +kernel
theorem dX4_days_19 : decode cX4_days 19 = .ok (.iload_n 1, 1) := by decide +kernel
theorem dX4_days_20 : decode cX4_days 20 = .ok (.iadd, 1) := by decide +kernel
theorem dX4_days_21 : decode cX4_days 21 = .ok (.sipush 1000, 3) := by decide +kernel
theorem dX4_days_24 : decode cX4_days 24 = .ok (.if_icmp .lt 8, 3) := by decide +kernel
theorem dX4_days_27 : decode cX4_days 27 = .ok (.bipush (-3), 2) := by decide +kernel
theorem dX4_days_29 : decode cX4_days 29 = .ok (.goto 11, 3) := by decide +kernel
theorem dX4_days_32 : decode cX4_days 32 = .ok (.aload_n 0, 1) := by decide +kernel
theorem dX4_days_33 : decode cX4_days 33 = .ok (.getfield 10, 3) := by decide +kernel
theorem dX4_days_36 : decode cX4_days 36 = .ok (.iload_n 1, 1) := by decide +kernel
theorem dX4_days_37 : decode cX4_days 37 = .ok (.invokevirtual 169, 3) := by decide +kernel
theorem dX4_days_40 : decode cX4_days 40 = .ok (.ireturn, 1) := by decide +kernel
theorem dX4_runs_0 : decode cX4_runs 0 = .ok (.iload_n 1, 1) := by decide +kernel
theorem dX4_runs_1 : decode cX4_runs 1 = .ok (.invokestatic 172, 3) := by decide +kernel
theorem dX4_runs_4 : decode cX4_runs 4 = .ok (.ifCond .eq 12, 3) := by decide +kernel
theorem dX4_runs_7 : decode cX4_runs 7 = .ok (.iload_n 2, 1) := by decide +kernel
theorem dX4_runs_8 : decode cX4_runs 8 = .ok (.iconst 0, 1) := by decide +kernel
theorem dX4_runs_9 : decode cX4_runs 9 = .ok (.iconst 3, 1) := by decide +kernel
theorem dX4_runs_10 : decode cX4_runs 10 = .ok (.invokestatic 46, 3) := by decide +kernel
theorem dX4_runs_13 : decode cX4_runs 13 = .ok (.ifCond .ne 5, 3) := by decide +kernel
theorem dX4_runs_16 : decode cX4_runs 16 = .ok (.iconst (-1), 1) := by decide +kernel
theorem dX4_runs_17 : decode cX4_runs 17 = .ok (.ireturn, 1) := by decide +kernel
theorem dX4_runs_18 : decode cX4_runs 18 = .ok (.aload_n 0, 1) := by decide +kernel
theorem dX4_runs_19 : decode cX4_runs 19 = .ok (.getfield 16, 3) := by decide +kernel
theorem dX4_runs_22 : decode cX4_runs 22 = .ok (.aload_n 0, 1) := by decide +kernel
theorem dX4_runs_23 : decode cX4_runs 23 = .ok (.getfield 10, 3) := by decide +kernel
theorem dX4_runs_26 : decode cX4_runs 26 = .ok (.invokevirtual 71, 3) := by decide +kernel
theorem dX4_runs_29 : decode cX4_runs 29 = .ok (.iconst 0, 1) := by decide +kernel
theorem dX4_runs_30 : decode cX4_runs 30 = .ok (.istore_n 3, 1) := by decide +kernel
theorem dX4_runs_31 : decode cX4_runs 31 = .ok (.iconst 0, 1) := by decide +kernel
theorem dX4_runs_32 : decode cX4_runs 32 = .ok (.istore 4, 2) := by decide +kernel
theorem dX4_runs_34 : decode cX4_runs 34 = .ok (.bipush (-4), 2) := by decide +kernel
theorem dX4_runs_36 : decode cX4_runs 36 = .ok (.istore 5, 2) := by decide +kernel
theorem dX4_runs_38 : decode cX4_runs 38 = .ok (.iconst 1, 1) := by decide +kernel
theorem dX4_runs_39 : decode cX4_runs 39 = .ok (.istore 6, 2) := by decide +kernel
theorem dX4_runs_41 : decode cX4_runs 41 = .ok (.iload 6, 2) := by decide +kernel
theorem dX4_runs_43 : decode cX4_runs 43 = .ok (.iload_n 1, 1) := by decide +kernel
theorem dX4_runs_44 : decode cX4_runs 44 = .ok (.if_icmp .gt 59, 3) := by decide +kernel
theorem dX4_runs_47 : decode cX4_runs 47 = .ok (.aload_n 0, 1) := by decide +kernel
theorem dX4_runs_48 : decode cX4_runs 48 = .ok (.getfield 16, 3) := by decide +kernel
theorem dX4_runs_51 : decode cX4_runs 51 = .ok (.invokevirtual 175, 3) := by decide +kernel
theorem dX4_runs_54 : decode cX4_runs 54 = .ok (.istore 7, 2) := by decide +kernel
theorem dX4_runs_56 : decode cX4_runs 56 = .ok (.iload_n 3, 1) := by decide +kernel
theorem dX4_runs_57 : decode cX4_runs 57 = .ok (.iload 7, 2) := by decide +kernel
theorem dX4_runs_59 : decode cX4_runs 59 = .ok (.iadd, 1) := by decide +kernel
theorem dX4_runs_60 : decode cX4_runs 60 = .ok (.istore_n 3, 1) := by decide +kernel
theorem dX4_runs_61 : decode cX4_runs 61 = .ok (.iload 4, 2) := by decide +kernel
theorem dX4_runs_63 : decode cX4_runs 63 = .ok (.iload 7, 2) := by decide +kernel
theorem dX4_runs_65 : decode cX4_runs 65 = .ok (.ifCond .le 7, 3) := by decide +kernel
theorem dX4_runs_68 : decode cX4_runs 68 = .ok (.iconst 1, 1) := by decide +kernel
theorem dX4_runs_69 : decode cX4_runs 69 = .ok (.goto 4, 3) := by decide +kernel
theorem dX4_runs_72 : decode cX4_runs 72 = .ok (.iconst 0, 1) := by decide +kernel
theorem dX4_runs_73 : decode cX4_runs 73 = .ok (.iadd, 1) := by decide +kernel
theorem dX4_runs_74 : decode cX4_runs 74 = .ok (.istore 4, 2) := by decide +kernel
theorem dX4_runs_76 : decode cX4_runs 76 = .ok (.iload 7, 2) := by decide +kernel
theorem dX4_runs_78 : decode cX4_runs 78 = .ok (.ifCond .le 15, 3) := by decide +kernel
theorem dX4_runs_81 : decode cX4_runs 81 = .ok (.iload 5, 2) := by decide +kernel
theorem dX4_runs_83 : decode cX4_runs 83 = .ok (.bipush (-4), 2) := by decide +kernel
theorem dX4_runs_85 : decode cX4_runs 85 = .ok (.if_icmp .ne 8, 3) := by decide +kernel
theorem dX4_runs_88 : decode cX4_runs 88 = .ok (.iload 6, 2) := by decide +kernel
theorem dX4_runs_90 : decode cX4_runs 90 = .ok (.goto 5, 3) := by decide +kernel
theorem dX4_runs_93 : decode cX4_runs 93 = .ok (.iload 5, 2) := by decide +kernel
theorem dX4_runs_95 : decode cX4_runs 95 = .ok (.istore 5, 2) := by decide +kernel
theorem dX4_runs_97 : decode cX4_runs 97 = .ok (.iinc 6 1, 3) := by decide +kernel
theorem dX4_runs_100 : decode cX4_runs 100 = .ok (.goto (-59), 3) := by decide +kernel
theorem dX4_runs_103 : decode cX4_runs 103 = .ok (.iload_n 2, 1) := by decide +kernel
theorem dX4_runs_104 : decode cX4_runs 104 = .ok (.tableswitch 41 0 2 #[28, 30, 38], 28) := by decide +kernel
theorem dX4_runs_132 : decode cX4_runs 132 = .ok (.iload_n 3, 1) := by decide +kernel
theorem dX4_runs_133 : decode cX4_runs 133 = .ok (.ireturn, 1) := by decide +kernel
theorem dX4_runs_134 : decode cX4_runs 134 = .ok (.aload_n 0, 1) := by decide +kernel
theorem dX4_runs_135 : decode cX4_runs 135 = .ok (.getfield 16, 3) := by decide +kernel
theorem dX4_runs_138 : decode cX4_runs 138 = .ok (.invokevirtual 98, 3) := by decide +kernel
theorem dX4_runs_141 : decode cX4_runs 141 = .ok (.ireturn, 1) := by decide +kernel
theorem dX4_runs_142 : decode cX4_runs 142 = .ok (.iload 4, 2) := by decide +kernel
theorem dX4_runs_144 : decode cX4_runs 144 = .ok (.ireturn, 1) := by decide +kernel
theorem dX4_runs_145 : decode cX4_runs 145 = .ok (.iload 5, 2) := by decide +kernel
theorem dX4_runs_147 : decode cX4_runs 147 = .ok (.ireturn, 1) := by decide +kernel
theorem dX4_ahead_0 : decode cX4_ahead 0 = .ok (.aload_n 0, 1) := by decide +kernel
theorem dX4_ahead_1 : decode cX4_ahead 1 = .ok (.iload_n 1, 1) := by decide +kernel
theorem dX4_ahead_2 : decode cX4_ahead 2 = .ok (.invokevirtual 105, 3) := by decide +kernel
theorem dX4_ahead_5 : decode cX4_ahead 5 = .ok (.ifCond .eq 17, 3) := by decide +kernel
theorem dX4_ahead_8 : decode cX4_ahead 8 = .ok (.iload_n 2, 1) := by decide +kernel
theorem dX4_ahead_9 : decode cX4_ahead 9 = .ok (.invokestatic 172, 3) := by decide +kernel
theorem dX4_ahead_12 : decode cX4_ahead 12 = .ok (.ifCond .eq 10, 3) := by decide +kernel
theorem dX4_ahead_15 : decode cX4_ahead 15 = .ok (.iload_n 3, 1) := by decide +kernel
theorem dX4_ahead_16 : decode cX4_ahead 16 = .ok (.invokestatic 178, 3) := by decide +kernel
theorem dX4_ahead_19 : decode cX4_ahead 19 = .ok (.ifCond .ne 5, 3) := by decide +kernel
theorem dX4_ahead_22 : decode cX4_ahead 22 = .ok (.iconst (-1), 1) := by decide +kernel
theorem dX4_ahead_23 : decode cX4_ahead 23 = .ok (.ireturn, 1) := by decide +kernel
theorem dX4_ahead_24 : decode cX4_ahead 24 = .ok (.aload_n 0, 1) := by decide +kernel
theorem dX4_ahead_25 : decode cX4_ahead 25 = .ok (.getfield 16, 3) := by decide +kernel
theorem dX4_ahead_28 : decode cX4_ahead 28 = .ok (.aload_n 0, 1) := by decide +kernel
theorem dX4_ahead_29 : decode cX4_ahead 29 = .ok (.getfield 10, 3) := by decide +kernel
theorem dX4_ahead_32 : decode cX4_ahead 32 = .ok (.invokevirtual 71, 3) := by decide +kernel
theorem dX4_ahead_35 : decode cX4_ahead 35 = .ok (.aload_n 0, 1) := by decide +kernel
theorem dX4_ahead_36 : decode cX4_ahead 36 = .ok (.getfield 16, 3) := by decide +kernel
theorem dX4_ahead_39 : decode cX4_ahead 39 = .ok (.iload_n 2, 1) := by decide +kernel
theorem dX4_ahead_40 : decode cX4_ahead 40 = .ok (.invokevirtual 169, 3) := by decide +kernel
theorem dX4_ahead_43 : decode cX4_ahead 43 = .ok (.pop, 1) := by decide +kernel
theorem dX4_ahead_44 : decode cX4_ahead 44 = .ok (.iload_n 3, 1) := by decide +kernel
theorem dX4_ahead_45 : decode cX4_ahead 45 = .ok (.ifCond .ne 15, 3) := by decide +kernel
theorem dX4_ahead_48 : decode cX4_ahead 48 = .ok (.aload_n 0, 1) := by decide +kernel
theorem dX4_ahead_49 : decode cX4_ahead 49 = .ok (.getfield 16, 3) := by decide +kernel
theorem dX4_ahead_52 : decode cX4_ahead 52 = .ok (.getfield 112, 3) := by decide +kernel
theorem dX4_ahead_55 : decode cX4_ahead 55 = .ok (.iload_n 1, 1) := by decide +kernel
theorem dX4_ahead_56 : decode cX4_ahead 56 = .ok (.iaload, 1) := by decide +kernel
theorem dX4_ahead_57 : decode cX4_ahead 57 = .ok (.goto 11, 3) := by decide +kernel
theorem dX4_ahead_60 : decode cX4_ahead 60 = .ok (.aload_n 0, 1) := by decide +kernel
theorem dX4_ahead_61 : decode cX4_ahead 61 = .ok (.getfield 16, 3) := by decide +kernel
theorem dX4_ahead_64 : decode cX4_ahead 64 = .ok (.iload_n 1, 1) := by decide +kernel
theorem dX4_ahead_65 : decode cX4_ahead 65 = .ok (.invokevirtual 118, 3) := by decide +kernel
theorem dX4_ahead_68 : decode cX4_ahead 68 = .ok (.ireturn, 1) := by decide +kernel
theorem dX4_believed_0 : decode cX4_believed 0 = .ok (.aload_n 0, 1) := by decide +kernel
theorem dX4_believed_1 : decode cX4_believed 1 = .ok (.iload_n 1, 1) := by decide +kernel
theorem dX4_believed_2 : decode cX4_believed 2 = .ok (.invokevirtual 105, 3) := by decide +kernel
theorem dX4_believed_5 : decode cX4_believed 5 = .ok (.ifCond .eq 22, 3) := by decide +kernel
theorem dX4_believed_8 : decode cX4_believed 8 = .ok (.iload_n 2, 1) := by decide +kernel
theorem dX4_believed_9 : decode cX4_believed 9 = .ok (.invokestatic 151, 3) := by decide +kernel
theorem dX4_believed_12 : decode cX4_believed 12 = .ok (.ifCond .eq 15, 3) := by decide +kernel
theorem dX4_believed_15 : decode cX4_believed 15 = .ok (.aload_n 0, 1) := by decide +kernel
theorem dX4_believed_16 : decode cX4_believed 16 = .ok (.getfield 10, 3) := by decide +kernel
theorem dX4_believed_19 : decode cX4_believed 19 = .ok (.iload_n 1, 1) := by decide +kernel
theorem dX4_believed_20 : decode cX4_believed 20 = .ok (.iload_n 2, 1) := by decide +kernel
theorem dX4_believed_21 : decode cX4_believed 21 = .ok (.invokevirtual 122, 3) := by decide +kernel
theorem dX4_believed_24 : decode cX4_believed 24 = .ok (.goto 4, 3) := by decide +kernel
theorem dX4_believed_27 : decode cX4_believed 27 = .ok (.iconst (-1), 1) := by decide +kernel
theorem dX4_believed_28 : decode cX4_believed 28 = .ok (.ireturn, 1) := by decide +kernel
theorem dX4_agrees_0 : decode cX4_agrees 0 = .ok (.aload_n 0, 1) := by decide +kernel
theorem dX4_agrees_1 : decode cX4_agrees 1 = .ok (.iload_n 1, 1) := by decide +kernel
theorem dX4_agrees_2 : decode cX4_agrees 2 = .ok (.invokevirtual 105, 3) := by decide +kernel
theorem dX4_agrees_5 : decode cX4_agrees 5 = .ok (.ifCond .ne 5, 3) := by decide +kernel
theorem dX4_agrees_8 : decode cX4_agrees 8 = .ok (.iconst (-1), 1) := by decide +kernel
theorem dX4_agrees_9 : decode cX4_agrees 9 = .ok (.ireturn, 1) := by decide +kernel
theorem dX4_agrees_10 : decode cX4_agrees 10 = .ok (.aload_n 0, 1) := by decide +kernel
theorem dX4_agrees_11 : decode cX4_agrees 11 = .ok (.getfield 16, 3) := by decide +kernel
theorem dX4_agrees_14 : decode cX4_agrees 14 = .ok (.aload_n 0, 1) := by decide +kernel
theorem dX4_agrees_15 : decode cX4_agrees 15 = .ok (.getfield 10, 3) := by decide +kernel
theorem dX4_agrees_18 : decode cX4_agrees 18 = .ok (.invokevirtual 71, 3) := by decide +kernel
theorem dX4_agrees_21 : decode cX4_agrees 21 = .ok (.iconst 0, 1) := by decide +kernel
theorem dX4_agrees_22 : decode cX4_agrees 22 = .ok (.istore_n 2, 1) := by decide +kernel
theorem dX4_agrees_23 : decode cX4_agrees 23 = .ok (.iload_n 2, 1) := by decide +kernel
theorem dX4_agrees_24 : decode cX4_agrees 24 = .ok (.bipush 60, 2) := by decide +kernel
theorem dX4_agrees_26 : decode cX4_agrees 26 = .ok (.if_icmp .gt 30, 3) := by decide +kernel
theorem dX4_agrees_29 : decode cX4_agrees 29 = .ok (.aload_n 0, 1) := by decide +kernel
theorem dX4_agrees_30 : decode cX4_agrees 30 = .ok (.getfield 16, 3) := by decide +kernel
theorem dX4_agrees_33 : decode cX4_agrees 33 = .ok (.iload_n 1, 1) := by decide +kernel
theorem dX4_agrees_34 : decode cX4_agrees 34 = .ok (.invokevirtual 181, 3) := by decide +kernel
theorem dX4_agrees_37 : decode cX4_agrees 37 = .ok (.ifCond .eq 5, 3) := by decide +kernel
theorem dX4_agrees_40 : decode cX4_agrees 40 = .ok (.iload_n 2, 1) := by decide +kernel
theorem dX4_agrees_41 : decode cX4_agrees 41 = .ok (.ireturn, 1) := by decide +kernel
theorem dX4_agrees_42 : decode cX4_agrees 42 = .ok (.aload_n 0, 1) := by decide +kernel
theorem dX4_agrees_43 : decode cX4_agrees 43 = .ok (.getfield 16, 3) := by decide +kernel
theorem dX4_agrees_46 : decode cX4_agrees 46 = .ok (.invokevirtual 175, 3) := by decide +kernel
theorem dX4_agrees_49 : decode cX4_agrees 49 = .ok (.pop, 1) := by decide +kernel
theorem dX4_agrees_50 : decode cX4_agrees 50 = .ok (.iinc 2 1, 3) := by decide +kernel
theorem dX4_agrees_53 : decode cX4_agrees 53 = .ok (.goto (-30), 3) := by decide +kernel
theorem dX4_agrees_56 : decode cX4_agrees 56 = .ok (.bipush (-4), 2) := by decide +kernel
theorem dX4_agrees_58 : decode cX4_agrees 58 = .ok (.ireturn, 1) := by decide +kernel
theorem dX4_pose_0 : decode cX4_pose 0 = .ok (.aload_n 0, 1) := by decide +kernel
theorem dX4_pose_1 : decode cX4_pose 1 = .ok (.iload_n 1, 1) := by decide +kernel
theorem dX4_pose_2 : decode cX4_pose 2 = .ok (.invokevirtual 105, 3) := by decide +kernel
theorem dX4_pose_5 : decode cX4_pose 5 = .ok (.ifCond .eq 10, 3) := by decide +kernel
theorem dX4_pose_8 : decode cX4_pose 8 = .ok (.iload_n 2, 1) := by decide +kernel
theorem dX4_pose_9 : decode cX4_pose 9 = .ok (.invokestatic 148, 3) := by decide +kernel
theorem dX4_pose_12 : decode cX4_pose 12 = .ok (.ifCond .ne 5, 3) := by decide +kernel
theorem dX4_pose_15 : decode cX4_pose 15 = .ok (.iconst (-1), 1) := by decide +kernel
theorem dX4_pose_16 : decode cX4_pose 16 = .ok (.ireturn, 1) := by decide +kernel
theorem dX4_pose_17 : decode cX4_pose 17 = .ok (.iconst 0, 1) := by decide +kernel
theorem dX4_pose_18 : decode cX4_pose 18 = .ok (.istore_n 3, 1) := by decide +kernel
theorem dX4_pose_19 : decode cX4_pose 19 = .ok (.iload_n 3, 1) := by decide +kernel
theorem dX4_pose_20 : decode cX4_pose 20 = .ok (.bipush 16, 2) := by decide +kernel
theorem dX4_pose_22 : decode cX4_pose 22 = .ok (.if_icmp .ge 48, 3) := by decide +kernel
theorem dX4_pose_25 : decode cX4_pose 25 = .ok (.aload_n 0, 1) := by decide +kernel
theorem dX4_pose_26 : decode cX4_pose 26 = .ok (.getfield 10, 3) := by decide +kernel
theorem dX4_pose_29 : decode cX4_pose 29 = .ok (.getfield 108, 3) := by decide +kernel
theorem dX4_pose_32 : decode cX4_pose 32 = .ok (.iload_n 1, 1) := by decide +kernel
theorem dX4_pose_33 : decode cX4_pose 33 = .ok (.iaload, 1) := by decide +kernel
theorem dX4_pose_34 : decode cX4_pose 34 = .ok (.iload_n 3, 1) := by decide +kernel
theorem dX4_pose_35 : decode cX4_pose 35 = .ok (.invokestatic 184, 3) := by decide +kernel
theorem dX4_pose_38 : decode cX4_pose 38 = .ok (.iload_n 2, 1) := by decide +kernel
theorem dX4_pose_39 : decode cX4_pose 39 = .ok (.if_icmp .ne 25, 3) := by decide +kernel
theorem dX4_pose_42 : decode cX4_pose 42 = .ok (.aload_n 0, 1) := by decide +kernel
theorem dX4_pose_43 : decode cX4_pose 43 = .ok (.getfield 10, 3) := by decide +kernel
theorem dX4_pose_46 : decode cX4_pose 46 = .ok (.iload_n 3, 1) := by decide +kernel
theorem dX4_pose_47 : decode cX4_pose 47 = .ok (.aload_n 0, 1) := by decide +kernel
theorem dX4_pose_48 : decode cX4_pose 48 = .ok (.getfield 10, 3) := by decide +kernel
theorem dX4_pose_51 : decode cX4_pose 51 = .ok (.getfield 115, 3) := by decide +kernel
theorem dX4_pose_54 : decode cX4_pose 54 = .ok (.iload_n 1, 1) := by decide +kernel
theorem dX4_pose_55 : decode cX4_pose 55 = .ok (.iaload, 1) := by decide +kernel
theorem dX4_pose_56 : decode cX4_pose 56 = .ok (.invokevirtual 126, 3) := by decide +kernel
theorem dX4_pose_59 : decode cX4_pose 59 = .ok (.ifCond .eq 5, 3) := by decide +kernel
theorem dX4_pose_62 : decode cX4_pose 62 = .ok (.iload_n 3, 1) := by decide +kernel
theorem dX4_pose_63 : decode cX4_pose 63 = .ok (.ireturn, 1) := by decide +kernel
theorem dX4_pose_64 : decode cX4_pose 64 = .ok (.iinc 3 1, 3) := by decide +kernel
theorem dX4_pose_67 : decode cX4_pose 67 = .ok (.goto (-48), 3) := by decide +kernel
theorem dX4_pose_70 : decode cX4_pose 70 = .ok (.bipush (-4), 2) := by decide +kernel
theorem dX4_pose_72 : decode cX4_pose 72 = .ok (.ireturn, 1) := by decide +kernel
theorem dX4_heavy_0 : decode cX4_heavy 0 = .ok (.aload_n 0, 1) := by decide +kernel
theorem dX4_heavy_1 : decode cX4_heavy 1 = .ok (.iload_n 1, 1) := by decide +kernel
theorem dX4_heavy_2 : decode cX4_heavy 2 = .ok (.invokevirtual 105, 3) := by decide +kernel
theorem dX4_heavy_5 : decode cX4_heavy 5 = .ok (.ifCond .eq 10, 3) := by decide +kernel
theorem dX4_heavy_8 : decode cX4_heavy 8 = .ok (.iload_n 2, 1) := by decide +kernel
theorem dX4_heavy_9 : decode cX4_heavy 9 = .ok (.invokestatic 148, 3) := by decide +kernel
theorem dX4_heavy_12 : decode cX4_heavy 12 = .ok (.ifCond .ne 5, 3) := by decide +kernel
theorem dX4_heavy_15 : decode cX4_heavy 15 = .ok (.iconst (-1), 1) := by decide +kernel
theorem dX4_heavy_16 : decode cX4_heavy 16 = .ok (.ireturn, 1) := by decide +kernel
theorem dX4_heavy_17 : decode cX4_heavy 17 = .ok (.iconst 0, 1) := by decide +kernel
theorem dX4_heavy_18 : decode cX4_heavy 18 = .ok (.istore_n 3, 1) := by decide +kernel
theorem dX4_heavy_19 : decode cX4_heavy 19 = .ok (.iconst 0, 1) := by decide +kernel
theorem dX4_heavy_20 : decode cX4_heavy 20 = .ok (.istore 4, 2) := by decide +kernel
theorem dX4_heavy_22 : decode cX4_heavy 22 = .ok (.iload 4, 2) := by decide +kernel
theorem dX4_heavy_24 : decode cX4_heavy 24 = .ok (.bipush 16, 2) := by decide +kernel
theorem dX4_heavy_26 : decode cX4_heavy 26 = .ok (.if_icmp .ge 45, 3) := by decide +kernel
theorem dX4_heavy_29 : decode cX4_heavy 29 = .ok (.aload_n 0, 1) := by decide +kernel
theorem dX4_heavy_30 : decode cX4_heavy 30 = .ok (.getfield 10, 3) := by decide +kernel
theorem dX4_heavy_33 : decode cX4_heavy 33 = .ok (.getfield 108, 3) := by decide +kernel
theorem dX4_heavy_36 : decode cX4_heavy 36 = .ok (.iload_n 1, 1) := by decide +kernel
theorem dX4_heavy_37 : decode cX4_heavy 37 = .ok (.iaload, 1) := by decide +kernel
theorem dX4_heavy_38 : decode cX4_heavy 38 = .ok (.iload 4, 2) := by decide +kernel
theorem dX4_heavy_40 : decode cX4_heavy 40 = .ok (.invokestatic 184, 3) := by decide +kernel
theorem dX4_heavy_43 : decode cX4_heavy 43 = .ok (.iload_n 2, 1) := by decide +kernel
theorem dX4_heavy_44 : decode cX4_heavy 44 = .ok (.if_icmp .ne 21, 3) := by decide +kernel
theorem dX4_heavy_47 : decode cX4_heavy 47 = .ok (.iload_n 3, 1) := by decide +kernel
theorem dX4_heavy_48 : decode cX4_heavy 48 = .ok (.iload 4, 2) := by decide +kernel
theorem dX4_heavy_50 : decode cX4_heavy 50 = .ok (.invokestatic 187, 3) := by decide +kernel
theorem dX4_heavy_53 : decode cX4_heavy 53 = .ok (.aload_n 0, 1) := by decide +kernel
theorem dX4_heavy_54 : decode cX4_heavy 54 = .ok (.getfield 10, 3) := by decide +kernel
theorem dX4_heavy_57 : decode cX4_heavy 57 = .ok (.getfield 95, 3) := by decide +kernel
theorem dX4_heavy_60 : decode cX4_heavy 60 = .ok (.imul, 1) := by decide +kernel
theorem dX4_heavy_61 : decode cX4_heavy 61 = .ok (.invokestatic 190, 3) := by decide +kernel
theorem dX4_heavy_64 : decode cX4_heavy 64 = .ok (.istore_n 3, 1) := by decide +kernel
theorem dX4_heavy_65 : decode cX4_heavy 65 = .ok (.iinc 4 1, 3) := by decide +kernel
theorem dX4_heavy_68 : decode cX4_heavy 68 = .ok (.goto (-46), 3) := by decide +kernel
theorem dX4_heavy_71 : decode cX4_heavy 71 = .ok (.iload_n 3, 1) := by decide +kernel
theorem dX4_heavy_72 : decode cX4_heavy 72 = .ok (.ifCond .ne 8, 3) := by decide +kernel
theorem dX4_heavy_75 : decode cX4_heavy 75 = .ok (.bipush (-4), 2) := by decide +kernel
theorem dX4_heavy_77 : decode cX4_heavy 77 = .ok (.goto 9, 3) := by decide +kernel
theorem dX4_heavy_80 : decode cX4_heavy 80 = .ok (.iload_n 3, 1) := by decide +kernel
theorem dX4_heavy_81 : decode cX4_heavy 81 = .ok (.bipush 99, 2) := by decide +kernel
theorem dX4_heavy_83 : decode cX4_heavy 83 = .ok (.invokestatic 195, 3) := by decide +kernel
theorem dX4_heavy_86 : decode cX4_heavy 86 = .ok (.ireturn, 1) := by decide +kernel
theorem dX4_need_0 : decode cX4_need 0 = .ok (.aload_n 0, 1) := by decide +kernel
theorem dX4_need_1 : decode cX4_need 1 = .ok (.getfield 16, 3) := by decide +kernel
theorem dX4_need_4 : decode cX4_need 4 = .ok (.aload_n 0, 1) := by decide +kernel
theorem dX4_need_5 : decode cX4_need 5 = .ok (.getfield 10, 3) := by decide +kernel
theorem dX4_need_8 : decode cX4_need 8 = .ok (.invokevirtual 71, 3) := by decide +kernel
theorem dX4_need_11 : decode cX4_need 11 = .ok (.iconst 1, 1) := by decide +kernel
theorem dX4_need_12 : decode cX4_need 12 = .ok (.aload_n 0, 1) := by decide +kernel
theorem dX4_need_13 : decode cX4_need 13 = .ok (.getfield 10, 3) := by decide +kernel
theorem dX4_need_16 : decode cX4_need 16 = .ok (.getfield 83, 3) := by decide +kernel
theorem dX4_need_19 : decode cX4_need 19 = .ok (.ishl, 1) := by decide +kernel
theorem dX4_need_20 : decode cX4_need 20 = .ok (.iconst 1, 1) := by decide +kernel
theorem dX4_need_21 : decode cX4_need 21 = .ok (.isub, 1) := by decide +kernel
theorem dX4_need_22 : decode cX4_need 22 = .ok (.istore_n 1, 1) := by decide +kernel
theorem dX4_need_23 : decode cX4_need 23 = .ok (.iconst 1, 1) := by decide +kernel
theorem dX4_need_24 : decode cX4_need 24 = .ok (.istore_n 2, 1) := by decide +kernel
theorem dX4_need_25 : decode cX4_need 25 = .ok (.iload_n 2, 1) := by decide +kernel
theorem dX4_need_26 : decode cX4_need 26 = .ok (.bipush 99, 2) := by decide +kernel
theorem dX4_need_28 : decode cX4_need 28 = .ok (.if_icmp .gt 30, 3) := by decide +kernel
theorem dX4_need_31 : decode cX4_need 31 = .ok (.aload_n 0, 1) := by decide +kernel
theorem dX4_need_32 : decode cX4_need 32 = .ok (.getfield 16, 3) := by decide +kernel
theorem dX4_need_35 : decode cX4_need 35 = .ok (.iload_n 2, 1) := by decide +kernel
theorem dX4_need_36 : decode cX4_need 36 = .ok (.putfield 95, 3) := by decide +kernel
theorem dX4_need_39 : decode cX4_need 39 = .ok (.aload_n 0, 1) := by decide +kernel
theorem dX4_need_40 : decode cX4_need 40 = .ok (.getfield 16, 3) := by decide +kernel
theorem dX4_need_43 : decode cX4_need 43 = .ok (.invokevirtual 102, 3) := by decide +kernel
theorem dX4_need_46 : decode cX4_need 46 = .ok (.iload_n 1, 1) := by decide +kernel
theorem dX4_need_47 : decode cX4_need 47 = .ok (.if_icmp .ne 5, 3) := by decide +kernel
theorem dX4_need_50 : decode cX4_need 50 = .ok (.iload_n 2, 1) := by decide +kernel
theorem dX4_need_51 : decode cX4_need 51 = .ok (.ireturn, 1) := by decide +kernel
theorem dX4_need_52 : decode cX4_need 52 = .ok (.iinc 2 1, 3) := by decide +kernel
theorem dX4_need_55 : decode cX4_need 55 = .ok (.goto (-30), 3) := by decide +kernel
theorem dX4_need_58 : decode cX4_need 58 = .ok (.bipush (-4), 2) := by decide +kernel
theorem dX4_need_60 : decode cX4_need 60 = .ok (.ireturn, 1) := by decide +kernel
theorem dX4_liar_0 : decode cX4_liar 0 = .ok (.iload_n 1, 1) := by decide +kernel
theorem dX4_liar_1 : decode cX4_liar 1 = .ok (.invokestatic 172, 3) := by decide +kernel
theorem dX4_liar_4 : decode cX4_liar 4 = .ok (.ifCond .eq 10, 3) := by decide +kernel
theorem dX4_liar_7 : decode cX4_liar 7 = .ok (.iload_n 2, 1) := by decide +kernel
theorem dX4_liar_8 : decode cX4_liar 8 = .ok (.invokestatic 178, 3) := by decide +kernel
theorem dX4_liar_11 : decode cX4_liar 11 = .ok (.ifCond .ne 5, 3) := by decide +kernel
theorem dX4_liar_14 : decode cX4_liar 14 = .ok (.iconst (-1), 1) := by decide +kernel
theorem dX4_liar_15 : decode cX4_liar 15 = .ok (.ireturn, 1) := by decide +kernel
theorem dX4_liar_16 : decode cX4_liar 16 = .ok (.aload_n 0, 1) := by decide +kernel
theorem dX4_liar_17 : decode cX4_liar 17 = .ok (.getfield 16, 3) := by decide +kernel
theorem dX4_liar_20 : decode cX4_liar 20 = .ok (.aload_n 0, 1) := by decide +kernel
theorem dX4_liar_21 : decode cX4_liar 21 = .ok (.getfield 10, 3) := by decide +kernel
theorem dX4_liar_24 : decode cX4_liar 24 = .ok (.invokevirtual 71, 3) := by decide +kernel
theorem dX4_liar_27 : decode cX4_liar 27 = .ok (.aload_n 0, 1) := by decide +kernel
theorem dX4_liar_28 : decode cX4_liar 28 = .ok (.getfield 16, 3) := by decide +kernel
theorem dX4_liar_31 : decode cX4_liar 31 = .ok (.iload_n 1, 1) := by decide +kernel
theorem dX4_liar_32 : decode cX4_liar 32 = .ok (.invokevirtual 169, 3) := by decide +kernel
theorem dX4_liar_35 : decode cX4_liar 35 = .ok (.istore_n 3, 1) := by decide +kernel
theorem dX4_liar_36 : decode cX4_liar 36 = .ok (.bipush (-4), 2) := by decide +kernel
theorem dX4_liar_38 : decode cX4_liar 38 = .ok (.istore 4, 2) := by decide +kernel
theorem dX4_liar_40 : decode cX4_liar 40 = .ok (.iconst 0, 1) := by decide +kernel
theorem dX4_liar_41 : decode cX4_liar 41 = .ok (.istore 5, 2) := by decide +kernel
theorem dX4_liar_43 : decode cX4_liar 43 = .ok (.iload 5, 2) := by decide +kernel
theorem dX4_liar_45 : decode cX4_liar 45 = .ok (.iconst 4, 1) := by decide +kernel
theorem dX4_liar_46 : decode cX4_liar 46 = .ok (.if_icmp .ge 54, 3) := by decide +kernel
theorem dX4_liar_49 : decode cX4_liar 49 = .ok (.aload_n 0, 1) := by decide +kernel
theorem dX4_liar_50 : decode cX4_liar 50 = .ok (.getfield 16, 3) := by decide +kernel
theorem dX4_liar_53 : decode cX4_liar 53 = .ok (.aload_n 0, 1) := by decide +kernel
theorem dX4_liar_54 : decode cX4_liar 54 = .ok (.getfield 10, 3) := by decide +kernel
theorem dX4_liar_57 : decode cX4_liar 57 = .ok (.invokevirtual 71, 3) := by decide +kernel
theorem dX4_liar_60 : decode cX4_liar 60 = .ok (.aload_n 0, 1) := by decide +kernel
theorem dX4_liar_61 : decode cX4_liar 61 = .ok (.getfield 16, 3) := by decide +kernel
theorem dX4_liar_64 : decode cX4_liar 64 = .ok (.getfield 145, 3) := by decide +kernel
theorem dX4_liar_67 : decode cX4_liar 67 = .ok (.iload 5, 2) := by decide +kernel
theorem dX4_liar_69 : decode cX4_liar 69 = .ok (.iconst 0, 1) := by decide +kernel
theorem dX4_liar_70 : decode cX4_liar 70 = .ok (.iastore, 1) := by decide +kernel
theorem dX4_liar_71 : decode cX4_liar 71 = .ok (.aload_n 0, 1) := by decide +kernel
theorem dX4_liar_72 : decode cX4_liar 72 = .ok (.getfield 16, 3) := by decide +kernel
theorem dX4_liar_75 : decode cX4_liar 75 = .ok (.iload_n 1, 1) := by decide +kernel
theorem dX4_liar_76 : decode cX4_liar 76 = .ok (.invokevirtual 169, 3) := by decide +kernel
theorem dX4_liar_79 : decode cX4_liar 79 = .ok (.istore 6, 2) := by decide +kernel
theorem dX4_liar_81 : decode cX4_liar 81 = .ok (.iload 6, 2) := by decide +kernel
theorem dX4_liar_83 : decode cX4_liar 83 = .ok (.iload_n 3, 1) := by decide +kernel
theorem dX4_liar_84 : decode cX4_liar 84 = .ok (.if_icmp .ge 10, 3) := by decide +kernel
theorem dX4_liar_87 : decode cX4_liar 87 = .ok (.iload 6, 2) := by decide +kernel
theorem dX4_liar_89 : decode cX4_liar 89 = .ok (.istore_n 3, 1) := by decide +kernel
theorem dX4_liar_90 : decode cX4_liar 90 = .ok (.iload 5, 2) := by decide +kernel
theorem dX4_liar_92 : decode cX4_liar 92 = .ok (.istore 4, 2) := by decide +kernel
theorem dX4_liar_94 : decode cX4_liar 94 = .ok (.iinc 5 1, 3) := by decide +kernel
theorem dX4_liar_97 : decode cX4_liar 97 = .ok (.goto (-54), 3) := by decide +kernel
theorem dX4_liar_100 : decode cX4_liar 100 = .ok (.iload_n 2, 1) := by decide +kernel
theorem dX4_liar_101 : decode cX4_liar 101 = .ok (.ifCond .eq 10, 3) := by decide +kernel
theorem dX4_liar_104 : decode cX4_liar 104 = .ok (.iload 4, 2) := by decide +kernel
theorem dX4_liar_106 : decode cX4_liar 106 = .ok (.bipush (-4), 2) := by decide +kernel
theorem dX4_liar_108 : decode cX4_liar 108 = .ok (.if_icmp .ne 8, 3) := by decide +kernel
theorem dX4_liar_111 : decode cX4_liar 111 = .ok (.iload 4, 2) := by decide +kernel
theorem dX4_liar_113 : decode cX4_liar 113 = .ok (.goto 4, 3) := by decide +kernel
theorem dX4_liar_116 : decode cX4_liar 116 = .ok (.iload_n 3, 1) := by decide +kernel
theorem dX4_liar_117 : decode cX4_liar 117 = .ok (.ireturn, 1) := by decide +kernel
theorem dX4_lose_0 : decode cX4_lose 0 = .ok (.iload_n 1, 1) := by decide +kernel
theorem dX4_lose_1 : decode cX4_lose 1 = .ok (.invokestatic 172, 3) := by decide +kernel
theorem dX4_lose_4 : decode cX4_lose 4 = .ok (.ifCond .eq 10, 3) := by decide +kernel
theorem dX4_lose_7 : decode cX4_lose 7 = .ok (.iload_n 2, 1) := by decide +kernel
theorem dX4_lose_8 : decode cX4_lose 8 = .ok (.invokestatic 178, 3) := by decide +kernel
theorem dX4_lose_11 : decode cX4_lose 11 = .ok (.ifCond .ne 5, 3) := by decide +kernel
theorem dX4_lose_14 : decode cX4_lose 14 = .ok (.iconst (-1), 1) := by decide +kernel
theorem dX4_lose_15 : decode cX4_lose 15 = .ok (.ireturn, 1) := by decide +kernel
theorem dX4_lose_16 : decode cX4_lose 16 = .ok (.aload_n 0, 1) := by decide +kernel
theorem dX4_lose_17 : decode cX4_lose 17 = .ok (.getfield 16, 3) := by decide +kernel
theorem dX4_lose_20 : decode cX4_lose 20 = .ok (.aload_n 0, 1) := by decide +kernel
theorem dX4_lose_21 : decode cX4_lose 21 = .ok (.getfield 10, 3) := by decide +kernel
theorem dX4_lose_24 : decode cX4_lose 24 = .ok (.invokevirtual 71, 3) := by decide +kernel
theorem dX4_lose_27 : decode cX4_lose 27 = .ok (.aload_n 0, 1) := by decide +kernel
theorem dX4_lose_28 : decode cX4_lose 28 = .ok (.iload_n 1, 1) := by decide +kernel
theorem dX4_lose_29 : decode cX4_lose 29 = .ok (.invokevirtual 198, 3) := by decide +kernel
theorem dX4_lose_32 : decode cX4_lose 32 = .ok (.istore_n 3, 1) := by decide +kernel
theorem dX4_lose_33 : decode cX4_lose 33 = .ok (.bipush (-4), 2) := by decide +kernel
theorem dX4_lose_35 : decode cX4_lose 35 = .ok (.istore 4, 2) := by decide +kernel
theorem dX4_lose_37 : decode cX4_lose 37 = .ok (.iconst 0, 1) := by decide +kernel
theorem dX4_lose_38 : decode cX4_lose 38 = .ok (.istore 5, 2) := by decide +kernel
theorem dX4_lose_40 : decode cX4_lose 40 = .ok (.iload 5, 2) := by decide +kernel
theorem dX4_lose_42 : decode cX4_lose 42 = .ok (.aload_n 0, 1) := by decide +kernel
theorem dX4_lose_43 : decode cX4_lose 43 = .ok (.getfield 10, 3) := by decide +kernel
theorem dX4_lose_46 : decode cX4_lose 46 = .ok (.getfield 86, 3) := by decide +kernel
theorem dX4_lose_49 : decode cX4_lose 49 = .ok (.if_icmp .ge 51, 3) := by decide +kernel
theorem dX4_lose_52 : decode cX4_lose 52 = .ok (.aload_n 0, 1) := by decide +kernel
theorem dX4_lose_53 : decode cX4_lose 53 = .ok (.getfield 16, 3) := by decide +kernel
theorem dX4_lose_56 : decode cX4_lose 56 = .ok (.aload_n 0, 1) := by decide +kernel
theorem dX4_lose_57 : decode cX4_lose 57 = .ok (.getfield 10, 3) := by decide +kernel
theorem dX4_lose_60 : decode cX4_lose 60 = .ok (.invokevirtual 71, 3) := by decide +kernel
theorem dX4_lose_63 : decode cX4_lose 63 = .ok (.aload_n 0, 1) := by decide +kernel
theorem dX4_lose_64 : decode cX4_lose 64 = .ok (.getfield 16, 3) := by decide +kernel
theorem dX4_lose_67 : decode cX4_lose 67 = .ok (.iconst 1, 1) := by decide +kernel
theorem dX4_lose_68 : decode cX4_lose 68 = .ok (.iload 5, 2) := by decide +kernel
theorem dX4_lose_70 : decode cX4_lose 70 = .ok (.ishl, 1) := by decide +kernel
theorem dX4_lose_71 : decode cX4_lose 71 = .ok (.putfield 201, 3) := by decide +kernel
theorem dX4_lose_74 : decode cX4_lose 74 = .ok (.aload_n 0, 1) := by decide +kernel
theorem dX4_lose_75 : decode cX4_lose 75 = .ok (.iload_n 1, 1) := by decide +kernel
theorem dX4_lose_76 : decode cX4_lose 76 = .ok (.invokevirtual 198, 3) := by decide +kernel
theorem dX4_lose_79 : decode cX4_lose 79 = .ok (.istore 6, 2) := by decide +kernel
theorem dX4_lose_81 : decode cX4_lose 81 = .ok (.iload 6, 2) := by decide +kernel
theorem dX4_lose_83 : decode cX4_lose 83 = .ok (.iload_n 3, 1) := by decide +kernel
theorem dX4_lose_84 : decode cX4_lose 84 = .ok (.if_icmp .le 10, 3) := by decide +kernel
theorem dX4_lose_87 : decode cX4_lose 87 = .ok (.iload 6, 2) := by decide +kernel
theorem dX4_lose_89 : decode cX4_lose 89 = .ok (.istore_n 3, 1) := by decide +kernel
theorem dX4_lose_90 : decode cX4_lose 90 = .ok (.iload 5, 2) := by decide +kernel
theorem dX4_lose_92 : decode cX4_lose 92 = .ok (.istore 4, 2) := by decide +kernel
theorem dX4_lose_94 : decode cX4_lose 94 = .ok (.iinc 5 1, 3) := by decide +kernel
theorem dX4_lose_97 : decode cX4_lose 97 = .ok (.goto (-57), 3) := by decide +kernel
theorem dX4_lose_100 : decode cX4_lose 100 = .ok (.iload_n 2, 1) := by decide +kernel
theorem dX4_lose_101 : decode cX4_lose 101 = .ok (.ifCond .eq 10, 3) := by decide +kernel
theorem dX4_lose_104 : decode cX4_lose 104 = .ok (.iload 4, 2) := by decide +kernel
theorem dX4_lose_106 : decode cX4_lose 106 = .ok (.bipush (-4), 2) := by decide +kernel
theorem dX4_lose_108 : decode cX4_lose 108 = .ok (.if_icmp .ne 8, 3) := by decide +kernel
theorem dX4_lose_111 : decode cX4_lose 111 = .ok (.iload 4, 2) := by decide +kernel
theorem dX4_lose_113 : decode cX4_lose 113 = .ok (.goto 4, 3) := by decide +kernel
theorem dX4_lose_116 : decode cX4_lose 116 = .ok (.iload_n 3, 1) := by decide +kernel
theorem dX4_lose_117 : decode cX4_lose 117 = .ok (.ireturn, 1) := by decide +kernel
theorem dX4_swap_0 : decode cX4_swap 0 = .ok (.iload_n 1, 1) := by decide +kernel
theorem dX4_swap_1 : decode cX4_swap 1 = .ok (.invokestatic 172, 3) := by decide +kernel
theorem dX4_swap_4 : decode cX4_swap 4 = .ok (.ifCond .eq 10, 3) := by decide +kernel
theorem dX4_swap_7 : decode cX4_swap 7 = .ok (.iload_n 2, 1) := by decide +kernel
theorem dX4_swap_8 : decode cX4_swap 8 = .ok (.invokestatic 178, 3) := by decide +kernel
theorem dX4_swap_11 : decode cX4_swap 11 = .ok (.ifCond .ne 5, 3) := by decide +kernel
theorem dX4_swap_14 : decode cX4_swap 14 = .ok (.iconst (-1), 1) := by decide +kernel
theorem dX4_swap_15 : decode cX4_swap 15 = .ok (.ireturn, 1) := by decide +kernel
theorem dX4_swap_16 : decode cX4_swap 16 = .ok (.aload_n 0, 1) := by decide +kernel
theorem dX4_swap_17 : decode cX4_swap 17 = .ok (.getfield 16, 3) := by decide +kernel
theorem dX4_swap_20 : decode cX4_swap 20 = .ok (.aload_n 0, 1) := by decide +kernel
theorem dX4_swap_21 : decode cX4_swap 21 = .ok (.getfield 10, 3) := by decide +kernel
theorem dX4_swap_24 : decode cX4_swap 24 = .ok (.invokevirtual 71, 3) := by decide +kernel
theorem dX4_swap_27 : decode cX4_swap 27 = .ok (.aload_n 0, 1) := by decide +kernel
theorem dX4_swap_28 : decode cX4_swap 28 = .ok (.iload_n 1, 1) := by decide +kernel
theorem dX4_swap_29 : decode cX4_swap 29 = .ok (.invokevirtual 198, 3) := by decide +kernel
theorem dX4_swap_32 : decode cX4_swap 32 = .ok (.istore_n 3, 1) := by decide +kernel
theorem dX4_swap_33 : decode cX4_swap 33 = .ok (.bipush (-4), 2) := by decide +kernel
theorem dX4_swap_35 : decode cX4_swap 35 = .ok (.istore 4, 2) := by decide +kernel
theorem dX4_swap_37 : decode cX4_swap 37 = .ok (.iconst 0, 1) := by decide +kernel
theorem dX4_swap_38 : decode cX4_swap 38 = .ok (.istore 5, 2) := by decide +kernel
theorem dX4_swap_40 : decode cX4_swap 40 = .ok (.iload 5, 2) := by decide +kernel
theorem dX4_swap_42 : decode cX4_swap 42 = .ok (.aload_n 0, 1) := by decide +kernel
theorem dX4_swap_43 : decode cX4_swap 43 = .ok (.getfield 10, 3) := by decide +kernel
theorem dX4_swap_46 : decode cX4_swap 46 = .ok (.getfield 86, 3) := by decide +kernel
theorem dX4_swap_49 : decode cX4_swap 49 = .ok (.if_icmp .ge 110, 3) := by decide +kernel
theorem dX4_swap_52 : decode cX4_swap 52 = .ok (.iload 5, 2) := by decide +kernel
theorem dX4_swap_54 : decode cX4_swap 54 = .ok (.iconst 1, 1) := by decide +kernel
theorem dX4_swap_55 : decode cX4_swap 55 = .ok (.iadd, 1) := by decide +kernel
theorem dX4_swap_56 : decode cX4_swap 56 = .ok (.istore 6, 2) := by decide +kernel
theorem dX4_swap_58 : decode cX4_swap 58 = .ok (.iload 6, 2) := by decide +kernel
theorem dX4_swap_60 : decode cX4_swap 60 = .ok (.aload_n 0, 1) := by decide +kernel
theorem dX4_swap_61 : decode cX4_swap 61 = .ok (.getfield 10, 3) := by decide +kernel
theorem dX4_swap_64 : decode cX4_swap 64 = .ok (.getfield 86, 3) := by decide +kernel
theorem dX4_swap_67 : decode cX4_swap 67 = .ok (.if_icmp .ge 86, 3) := by decide +kernel
theorem dX4_swap_70 : decode cX4_swap 70 = .ok (.aload_n 0, 1) := by decide +kernel
theorem dX4_swap_71 : decode cX4_swap 71 = .ok (.getfield 16, 3) := by decide +kernel
theorem dX4_swap_74 : decode cX4_swap 74 = .ok (.aload_n 0, 1) := by decide +kernel
theorem dX4_swap_75 : decode cX4_swap 75 = .ok (.getfield 10, 3) := by decide +kernel
theorem dX4_swap_78 : decode cX4_swap 78 = .ok (.invokevirtual 71, 3) := by decide +kernel
theorem dX4_swap_81 : decode cX4_swap 81 = .ok (.aload_n 0, 1) := by decide +kernel
theorem dX4_swap_82 : decode cX4_swap 82 = .ok (.getfield 16, 3) := by decide +kernel
theorem dX4_swap_85 : decode cX4_swap 85 = .ok (.getfield 136, 3) := by decide +kernel
theorem dX4_swap_88 : decode cX4_swap 88 = .ok (.iload 5, 2) := by decide +kernel
theorem dX4_swap_90 : decode cX4_swap 90 = .ok (.aload_n 0, 1) := by decide +kernel
theorem dX4_swap_91 : decode cX4_swap 91 = .ok (.getfield 10, 3) := by decide +kernel
theorem dX4_swap_94 : decode cX4_swap 94 = .ok (.getfield 136, 3) := by decide +kernel
theorem dX4_swap_97 : decode cX4_swap 97 = .ok (.iload 6, 2) := by decide +kernel
theorem dX4_swap_99 : decode cX4_swap 99 = .ok (.iaload, 1) := by decide +kernel
theorem dX4_swap_100 : decode cX4_swap 100 = .ok (.iastore, 1) := by decide +kernel
theorem dX4_swap_101 : decode cX4_swap 101 = .ok (.aload_n 0, 1) := by decide +kernel
theorem dX4_swap_102 : decode cX4_swap 102 = .ok (.getfield 16, 3) := by decide +kernel
theorem dX4_swap_105 : decode cX4_swap 105 = .ok (.getfield 136, 3) := by decide +kernel
theorem dX4_swap_108 : decode cX4_swap 108 = .ok (.iload 6, 2) := by decide +kernel
theorem dX4_swap_110 : decode cX4_swap 110 = .ok (.aload_n 0, 1) := by decide +kernel
theorem dX4_swap_111 : decode cX4_swap 111 = .ok (.getfield 10, 3) := by decide +kernel
theorem dX4_swap_114 : decode cX4_swap 114 = .ok (.getfield 136, 3) := by decide +kernel
theorem dX4_swap_117 : decode cX4_swap 117 = .ok (.iload 5, 2) := by decide +kernel
theorem dX4_swap_119 : decode cX4_swap 119 = .ok (.iaload, 1) := by decide +kernel
theorem dX4_swap_120 : decode cX4_swap 120 = .ok (.iastore, 1) := by decide +kernel
theorem dX4_swap_121 : decode cX4_swap 121 = .ok (.aload_n 0, 1) := by decide +kernel
theorem dX4_swap_122 : decode cX4_swap 122 = .ok (.iload_n 1, 1) := by decide +kernel
theorem dX4_swap_123 : decode cX4_swap 123 = .ok (.invokevirtual 198, 3) := by decide +kernel
theorem dX4_swap_126 : decode cX4_swap 126 = .ok (.istore 7, 2) := by decide +kernel
theorem dX4_swap_128 : decode cX4_swap 128 = .ok (.iload 7, 2) := by decide +kernel
theorem dX4_swap_130 : decode cX4_swap 130 = .ok (.iload_n 3, 1) := by decide +kernel
theorem dX4_swap_131 : decode cX4_swap 131 = .ok (.if_icmp .le 16, 3) := by decide +kernel
theorem dX4_swap_134 : decode cX4_swap 134 = .ok (.iload 7, 2) := by decide +kernel
theorem dX4_swap_136 : decode cX4_swap 136 = .ok (.istore_n 3, 1) := by decide +kernel
theorem dX4_swap_137 : decode cX4_swap 137 = .ok (.bipush 10, 2) := by decide +kernel
theorem dX4_swap_139 : decode cX4_swap 139 = .ok (.iload 5, 2) := by decide +kernel
theorem dX4_swap_141 : decode cX4_swap 141 = .ok (.imul, 1) := by decide +kernel
theorem dX4_swap_142 : decode cX4_swap 142 = .ok (.iload 6, 2) := by decide +kernel
theorem dX4_swap_144 : decode cX4_swap 144 = .ok (.iadd, 1) := by decide +kernel
theorem dX4_swap_145 : decode cX4_swap 145 = .ok (.istore 4, 2) := by decide +kernel
theorem dX4_swap_147 : decode cX4_swap 147 = .ok (.iinc 6 1, 3) := by decide +kernel
theorem dX4_swap_150 : decode cX4_swap 150 = .ok (.goto (-92), 3) := by decide +kernel
theorem dX4_swap_153 : decode cX4_swap 153 = .ok (.iinc 5 1, 3) := by decide +kernel
theorem dX4_swap_156 : decode cX4_swap 156 = .ok (.goto (-116), 3) := by decide +kernel
theorem dX4_swap_159 : decode cX4_swap 159 = .ok (.iload_n 2, 1) := by decide +kernel
theorem dX4_swap_160 : decode cX4_swap 160 = .ok (.ifCond .eq 10, 3) := by decide +kernel
theorem dX4_swap_163 : decode cX4_swap 163 = .ok (.iload 4, 2) := by decide +kernel
theorem dX4_swap_165 : decode cX4_swap 165 = .ok (.bipush (-4), 2) := by decide +kernel
theorem dX4_swap_167 : decode cX4_swap 167 = .ok (.if_icmp .ne 8, 3) := by decide +kernel
theorem dX4_swap_170 : decode cX4_swap 170 = .ok (.iload 4, 2) := by decide +kernel
theorem dX4_swap_172 : decode cX4_swap 172 = .ok (.goto 4, 3) := by decide +kernel
theorem dX4_swap_175 : decode cX4_swap 175 = .ok (.iload_n 3, 1) := by decide +kernel
theorem dX4_swap_176 : decode cX4_swap 176 = .ok (.ireturn, 1) := by decide +kernel
theorem dX4_gain_0 : decode cX4_gain 0 = .ok (.iload_n 1, 1) := by decide +kernel
theorem dX4_gain_1 : decode cX4_gain 1 = .ok (.invokestatic 142, 3) := by decide +kernel
theorem dX4_gain_4 : decode cX4_gain 4 = .ok (.ifCond .eq 26, 3) := by decide +kernel
theorem dX4_gain_7 : decode cX4_gain 7 = .ok (.aload_n 0, 1) := by decide +kernel
theorem dX4_gain_8 : decode cX4_gain 8 = .ok (.iload_n 2, 1) := by decide +kernel
theorem dX4_gain_9 : decode cX4_gain 9 = .ok (.invokevirtual 105, 3) := by decide +kernel
theorem dX4_gain_12 : decode cX4_gain 12 = .ok (.ifCond .eq 18, 3) := by decide +kernel
theorem dX4_gain_15 : decode cX4_gain 15 = .ok (.iload_n 3, 1) := by decide +kernel
theorem dX4_gain_16 : decode cX4_gain 16 = .ok (.invokestatic 148, 3) := by decide +kernel
theorem dX4_gain_19 : decode cX4_gain 19 = .ok (.ifCond .eq 11, 3) := by decide +kernel
theorem dX4_gain_22 : decode cX4_gain 22 = .ok (.iload 4, 2) := by decide +kernel
theorem dX4_gain_24 : decode cX4_gain 24 = .ok (.invokestatic 151, 3) := by decide +kernel
theorem dX4_gain_27 : decode cX4_gain 27 = .ok (.ifCond .ne 5, 3) := by decide +kernel
theorem dX4_gain_30 : decode cX4_gain 30 = .ok (.iconst (-1), 1) := by decide +kernel
theorem dX4_gain_31 : decode cX4_gain 31 = .ok (.ireturn, 1) := by decide +kernel
theorem dX4_gain_32 : decode cX4_gain 32 = .ok (.aload_n 0, 1) := by decide +kernel
theorem dX4_gain_33 : decode cX4_gain 33 = .ok (.getfield 16, 3) := by decide +kernel
theorem dX4_gain_36 : decode cX4_gain 36 = .ok (.aload_n 0, 1) := by decide +kernel
theorem dX4_gain_37 : decode cX4_gain 37 = .ok (.getfield 10, 3) := by decide +kernel
theorem dX4_gain_40 : decode cX4_gain 40 = .ok (.invokevirtual 71, 3) := by decide +kernel
theorem dX4_gain_43 : decode cX4_gain 43 = .ok (.iconst 0, 1) := by decide +kernel
theorem dX4_gain_44 : decode cX4_gain 44 = .ok (.istore 5, 2) := by decide +kernel
theorem dX4_gain_46 : decode cX4_gain 46 = .ok (.iload 5, 2) := by decide +kernel
theorem dX4_gain_48 : decode cX4_gain 48 = .ok (.bipush 9, 2) := by decide +kernel
theorem dX4_gain_50 : decode cX4_gain 50 = .ok (.if_icmp .gt 37, 3) := by decide +kernel
theorem dX4_gain_53 : decode cX4_gain 53 = .ok (.aload_n 0, 1) := by decide +kernel
theorem dX4_gain_54 : decode cX4_gain 54 = .ok (.getfield 16, 3) := by decide +kernel
theorem dX4_gain_57 : decode cX4_gain 57 = .ok (.getfield 145, 3) := by decide +kernel
theorem dX4_gain_60 : decode cX4_gain 60 = .ok (.iload_n 1, 1) := by decide +kernel
theorem dX4_gain_61 : decode cX4_gain 61 = .ok (.iload 5, 2) := by decide +kernel
theorem dX4_gain_63 : decode cX4_gain 63 = .ok (.iastore, 1) := by decide +kernel
theorem dX4_gain_64 : decode cX4_gain 64 = .ok (.aload_n 0, 1) := by decide +kernel
theorem dX4_gain_65 : decode cX4_gain 65 = .ok (.getfield 16, 3) := by decide +kernel
theorem dX4_gain_68 : decode cX4_gain 68 = .ok (.iload_n 2, 1) := by decide +kernel
theorem dX4_gain_69 : decode cX4_gain 69 = .ok (.iload 4, 2) := by decide +kernel
theorem dX4_gain_71 : decode cX4_gain 71 = .ok (.invokevirtual 122, 3) := by decide +kernel
theorem dX4_gain_74 : decode cX4_gain 74 = .ok (.iload_n 3, 1) := by decide +kernel
theorem dX4_gain_75 : decode cX4_gain 75 = .ok (.if_icmp .ne 6, 3) := by decide +kernel
theorem dX4_gain_78 : decode cX4_gain 78 = .ok (.iload 5, 2) := by decide +kernel
theorem dX4_gain_80 : decode cX4_gain 80 = .ok (.ireturn, 1) := by decide +kernel
theorem dX4_gain_81 : decode cX4_gain 81 = .ok (.iinc 5 1, 3) := by decide +kernel
theorem dX4_gain_84 : decode cX4_gain 84 = .ok (.goto (-38), 3) := by decide +kernel
theorem dX4_gain_87 : decode cX4_gain 87 = .ok (.bipush (-4), 2) := by decide +kernel
theorem dX4_gain_89 : decode cX4_gain 89 = .ok (.ireturn, 1) := by decide +kernel
theorem dX4_kind_0 : decode cX4_kind 0 = .ok (.aload_n 0, 1) := by decide +kernel
theorem dX4_kind_1 : decode cX4_kind 1 = .ok (.iload_n 1, 1) := by decide +kernel
theorem dX4_kind_2 : decode cX4_kind 2 = .ok (.invokevirtual 105, 3) := by decide +kernel
theorem dX4_kind_5 : decode cX4_kind 5 = .ok (.ifCond .eq 17, 3) := by decide +kernel
theorem dX4_kind_8 : decode cX4_kind 8 = .ok (.iload_n 2, 1) := by decide +kernel
theorem dX4_kind_9 : decode cX4_kind 9 = .ok (.invokestatic 172, 3) := by decide +kernel
theorem dX4_kind_12 : decode cX4_kind 12 = .ok (.ifCond .eq 10, 3) := by decide +kernel
theorem dX4_kind_15 : decode cX4_kind 15 = .ok (.iload_n 3, 1) := by decide +kernel
theorem dX4_kind_16 : decode cX4_kind 16 = .ok (.invokestatic 178, 3) := by decide +kernel
theorem dX4_kind_19 : decode cX4_kind 19 = .ok (.ifCond .ne 5, 3) := by decide +kernel
theorem dX4_kind_22 : decode cX4_kind 22 = .ok (.iconst (-1), 1) := by decide +kernel
theorem dX4_kind_23 : decode cX4_kind 23 = .ok (.ireturn, 1) := by decide +kernel
theorem dX4_kind_24 : decode cX4_kind 24 = .ok (.sipush 301, 3) := by decide +kernel
theorem dX4_kind_27 : decode cX4_kind 27 = .ok (.istore 4, 2) := by decide +kernel
theorem dX4_kind_29 : decode cX4_kind 29 = .ok (.iconst 0, 1) := by decide +kernel
theorem dX4_kind_30 : decode cX4_kind 30 = .ok (.istore 5, 2) := by decide +kernel
theorem dX4_kind_32 : decode cX4_kind 32 = .ok (.iconst 0, 1) := by decide +kernel
theorem dX4_kind_33 : decode cX4_kind 33 = .ok (.istore 6, 2) := by decide +kernel
theorem dX4_kind_35 : decode cX4_kind 35 = .ok (.iload 6, 2) := by decide +kernel
theorem dX4_kind_37 : decode cX4_kind 37 = .ok (.iconst 4, 1) := by decide +kernel
theorem dX4_kind_38 : decode cX4_kind 38 = .ok (.if_icmp .ge 56, 3) := by decide +kernel
theorem dX4_kind_41 : decode cX4_kind 41 = .ok (.aload_n 0, 1) := by decide +kernel
theorem dX4_kind_42 : decode cX4_kind 42 = .ok (.getfield 16, 3) := by decide +kernel
theorem dX4_kind_45 : decode cX4_kind 45 = .ok (.aload_n 0, 1) := by decide +kernel
theorem dX4_kind_46 : decode cX4_kind 46 = .ok (.getfield 10, 3) := by decide +kernel
theorem dX4_kind_49 : decode cX4_kind 49 = .ok (.invokevirtual 71, 3) := by decide +kernel
theorem dX4_kind_52 : decode cX4_kind 52 = .ok (.aload_n 0, 1) := by decide +kernel
theorem dX4_kind_53 : decode cX4_kind 53 = .ok (.getfield 16, 3) := by decide +kernel
theorem dX4_kind_56 : decode cX4_kind 56 = .ok (.getfield 108, 3) := by decide +kernel
theorem dX4_kind_59 : decode cX4_kind 59 = .ok (.iload_n 1, 1) := by decide +kernel
theorem dX4_kind_60 : decode cX4_kind 60 = .ok (.iload 6, 2) := by decide +kernel
theorem dX4_kind_62 : decode cX4_kind 62 = .ok (.iastore, 1) := by decide +kernel
theorem dX4_kind_63 : decode cX4_kind 63 = .ok (.aload_n 0, 1) := by decide +kernel
theorem dX4_kind_64 : decode cX4_kind 64 = .ok (.getfield 16, 3) := by decide +kernel
theorem dX4_kind_67 : decode cX4_kind 67 = .ok (.iload_n 2, 1) := by decide +kernel
theorem dX4_kind_68 : decode cX4_kind 68 = .ok (.invokevirtual 169, 3) := by decide +kernel
theorem dX4_kind_71 : decode cX4_kind 71 = .ok (.istore 7, 2) := by decide +kernel
theorem dX4_kind_73 : decode cX4_kind 73 = .ok (.iload 7, 2) := by decide +kernel
theorem dX4_kind_75 : decode cX4_kind 75 = .ok (.iload 4, 2) := by decide +kernel
theorem dX4_kind_77 : decode cX4_kind 77 = .ok (.if_icmp .ge 11, 3) := by decide +kernel
theorem dX4_kind_80 : decode cX4_kind 80 = .ok (.iload 7, 2) := by decide +kernel
theorem dX4_kind_82 : decode cX4_kind 82 = .ok (.istore 4, 2) := by decide +kernel
theorem dX4_kind_84 : decode cX4_kind 84 = .ok (.iload 6, 2) := by decide +kernel
theorem dX4_kind_86 : decode cX4_kind 86 = .ok (.istore 5, 2) := by decide +kernel
theorem dX4_kind_88 : decode cX4_kind 88 = .ok (.iinc 6 1, 3) := by decide +kernel
theorem dX4_kind_91 : decode cX4_kind 91 = .ok (.goto (-56), 3) := by decide +kernel
theorem dX4_kind_94 : decode cX4_kind 94 = .ok (.iload_n 3, 1) := by decide +kernel
theorem dX4_kind_95 : decode cX4_kind 95 = .ok (.ifCond .ne 8, 3) := by decide +kernel
theorem dX4_kind_98 : decode cX4_kind 98 = .ok (.iload 5, 2) := by decide +kernel
theorem dX4_kind_100 : decode cX4_kind 100 = .ok (.goto 5, 3) := by decide +kernel
theorem dX4_kind_103 : decode cX4_kind 103 = .ok (.iload 4, 2) := by decide +kernel
theorem dX4_kind_105 : decode cX4_kind 105 = .ok (.ireturn, 1) := by decide +kernel
theorem dX4_luck_0 : decode cX4_luck 0 = .ok (.iload_n 1, 1) := by decide +kernel
theorem dX4_luck_1 : decode cX4_luck 1 = .ok (.invokestatic 204, 3) := by decide +kernel
theorem dX4_luck_4 : decode cX4_luck 4 = .ok (.ifCond .eq 34, 3) := by decide +kernel
theorem dX4_luck_7 : decode cX4_luck 7 = .ok (.aload_n 0, 1) := by decide +kernel
theorem dX4_luck_8 : decode cX4_luck 8 = .ok (.iload_n 2, 1) := by decide +kernel
theorem dX4_luck_9 : decode cX4_luck 9 = .ok (.invokevirtual 105, 3) := by decide +kernel
theorem dX4_luck_12 : decode cX4_luck 12 = .ok (.ifCond .eq 26, 3) := by decide +kernel
theorem dX4_luck_15 : decode cX4_luck 15 = .ok (.iload_n 3, 1) := by decide +kernel
theorem dX4_luck_16 : decode cX4_luck 16 = .ok (.invokestatic 148, 3) := by decide +kernel
theorem dX4_luck_19 : decode cX4_luck 19 = .ok (.ifCond .eq 19, 3) := by decide +kernel
theorem dX4_luck_22 : decode cX4_luck 22 = .ok (.iload 4, 2) := by decide +kernel
theorem dX4_luck_24 : decode cX4_luck 24 = .ok (.invokestatic 151, 3) := by decide +kernel
theorem dX4_luck_27 : decode cX4_luck 27 = .ok (.ifCond .eq 11, 3) := by decide +kernel
theorem dX4_luck_30 : decode cX4_luck 30 = .ok (.iload 5, 2) := by decide +kernel
theorem dX4_luck_32 : decode cX4_luck 32 = .ok (.invokestatic 178, 3) := by decide +kernel
theorem dX4_luck_35 : decode cX4_luck 35 = .ok (.ifCond .ne 7, 3) := by decide +kernel
theorem dX4_luck_38 : decode cX4_luck 38 = .ok (.ldc2_w 207, 3) := by decide +kernel
theorem dX4_luck_41 : decode cX4_luck 41 = .ok (.lreturn, 1) := by decide +kernel
theorem dX4_luck_42 : decode cX4_luck 42 = .ok (.aload_n 0, 1) := by decide +kernel
theorem dX4_luck_43 : decode cX4_luck 43 = .ok (.getfield 16, 3) := by decide +kernel
theorem dX4_luck_46 : decode cX4_luck 46 = .ok (.aload_n 0, 1) := by decide +kernel
theorem dX4_luck_47 : decode cX4_luck 47 = .ok (.getfield 10, 3) := by decide +kernel
theorem dX4_luck_50 : decode cX4_luck 50 = .ok (.invokevirtual 71, 3) := by decide +kernel
theorem dX4_luck_53 : decode cX4_luck 53 = .ok (.aload_n 0, 1) := by decide +kernel
theorem dX4_luck_54 : decode cX4_luck 54 = .ok (.getfield 10, 3) := by decide +kernel
theorem dX4_luck_57 : decode cX4_luck 57 = .ok (.iload_n 2, 1) := by decide +kernel
theorem dX4_luck_58 : decode cX4_luck 58 = .ok (.invokevirtual 209, 3) := by decide +kernel
theorem dX4_luck_61 : decode cX4_luck 61 = .ok (.istore 6, 2) := by decide +kernel
theorem dX4_luck_63 : decode cX4_luck 63 = .ok (.lconst 0, 1) := by decide +kernel
theorem dX4_luck_64 : decode cX4_luck 64 = .ok (.lstore 7, 2) := by decide +kernel
theorem dX4_luck_66 : decode cX4_luck 66 = .ok (.iconst 0, 1) := by decide +kernel
theorem dX4_luck_67 : decode cX4_luck 67 = .ok (.istore 9, 2) := by decide +kernel
theorem dX4_luck_69 : decode cX4_luck 69 = .ok (.iload 9, 2) := by decide +kernel
theorem dX4_luck_71 : decode cX4_luck 71 = .ok (.sipush 256, 3) := by decide +kernel
theorem dX4_luck_74 : decode cX4_luck 74 = .ok (.if_icmp .ge 55, 3) := by decide +kernel
theorem dX4_luck_77 : decode cX4_luck 77 = .ok (.aload_n 0, 1) := by decide +kernel
theorem dX4_luck_78 : decode cX4_luck 78 = .ok (.getfield 16, 3) := by decide +kernel
theorem dX4_luck_81 : decode cX4_luck 81 = .ok (.iload 9, 2) := by decide +kernel
theorem dX4_luck_83 : decode cX4_luck 83 = .ok (.putfield 201, 3) := by decide +kernel
theorem dX4_luck_86 : decode cX4_luck 86 = .ok (.iload 9, 2) := by decide +kernel
theorem dX4_luck_88 : decode cX4_luck 88 = .ok (.iload 6, 2) := by decide +kernel
theorem dX4_luck_90 : decode cX4_luck 90 = .ok (.iconst (-1), 1) := by decide +kernel
theorem dX4_luck_91 : decode cX4_luck 91 = .ok (.ixor, 1) := by decide +kernel
theorem dX4_luck_92 : decode cX4_luck 92 = .ok (.iand, 1) := by decide +kernel
theorem dX4_luck_93 : decode cX4_luck 93 = .ok (.ifCond .ne 30, 3) := by decide +kernel
theorem dX4_luck_96 : decode cX4_luck 96 = .ok (.aload_n 0, 1) := by decide +kernel
theorem dX4_luck_97 : decode cX4_luck 97 = .ok (.getfield 16, 3) := by decide +kernel
theorem dX4_luck_100 : decode cX4_luck 100 = .ok (.iload_n 2, 1) := by decide +kernel
theorem dX4_luck_101 : decode cX4_luck 101 = .ok (.iload 4, 2) := by decide +kernel
theorem dX4_luck_103 : decode cX4_luck 103 = .ok (.invokevirtual 122, 3) := by decide +kernel
theorem dX4_luck_106 : decode cX4_luck 106 = .ok (.iload_n 3, 1) := by decide +kernel
theorem dX4_luck_107 : decode cX4_luck 107 = .ok (.if_icmp .ne 16, 3) := by decide +kernel
theorem dX4_luck_110 : decode cX4_luck 110 = .ok (.lload 7, 2) := by decide +kernel
theorem dX4_luck_112 : decode cX4_luck 112 = .ok (.iload_n 1, 1) := by decide +kernel
theorem dX4_luck_113 : decode cX4_luck 113 = .ok (.iload 9, 2) := by decide +kernel
theorem dX4_luck_115 : decode cX4_luck 115 = .ok (.iload 6, 2) := by decide +kernel
theorem dX4_luck_117 : decode cX4_luck 117 = .ok (.invokestatic 212, 3) := by decide +kernel
theorem dX4_luck_120 : decode cX4_luck 120 = .ok (.ladd, 1) := by decide +kernel
theorem dX4_luck_121 : decode cX4_luck 121 = .ok (.lstore 7, 2) := by decide +kernel
theorem dX4_luck_123 : decode cX4_luck 123 = .ok (.iinc 9 1, 3) := by decide +kernel
theorem dX4_luck_126 : decode cX4_luck 126 = .ok (.goto (-57), 3) := by decide +kernel
theorem dX4_luck_129 : decode cX4_luck 129 = .ok (.lload 7, 2) := by decide +kernel
theorem dX4_luck_131 : decode cX4_luck 131 = .ok (.bipush 10, 2) := by decide +kernel
theorem dX4_luck_133 : decode cX4_luck 133 = .ok (.iload 6, 2) := by decide +kernel
theorem dX4_luck_135 : decode cX4_luck 135 = .ok (.invokestatic 216, 3) := by decide +kernel
theorem dX4_luck_138 : decode cX4_luck 138 = .ok (.invokestatic 221, 3) := by decide +kernel
theorem dX4_luck_141 : decode cX4_luck 141 = .ok (.iload 5, 2) := by decide +kernel
theorem dX4_luck_143 : decode cX4_luck 143 = .ok (.invokestatic 225, 3) := by decide +kernel
theorem dX4_luck_146 : decode cX4_luck 146 = .ok (.lreturn, 1) := by decide +kernel
theorem dX4_mean_0 : decode cX4_mean 0 = .ok (.iload_n 1, 1) := by decide +kernel
theorem dX4_mean_1 : decode cX4_mean 1 = .ok (.invokestatic 204, 3) := by decide +kernel
theorem dX4_mean_4 : decode cX4_mean 4 = .ok (.ifCond .eq 20, 3) := by decide +kernel
theorem dX4_mean_7 : decode cX4_mean 7 = .ok (.iload_n 2, 1) := by decide +kernel
theorem dX4_mean_8 : decode cX4_mean 8 = .ok (.iconst 0, 1) := by decide +kernel
theorem dX4_mean_9 : decode cX4_mean 9 = .ok (.bipush 20, 2) := by decide +kernel
theorem dX4_mean_11 : decode cX4_mean 11 = .ok (.invokestatic 46, 3) := by decide +kernel
theorem dX4_mean_14 : decode cX4_mean 14 = .ok (.ifCond .eq 10, 3) := by decide +kernel
theorem dX4_mean_17 : decode cX4_mean 17 = .ok (.iload_n 3, 1) := by decide +kernel
theorem dX4_mean_18 : decode cX4_mean 18 = .ok (.invokestatic 178, 3) := by decide +kernel
theorem dX4_mean_21 : decode cX4_mean 21 = .ok (.ifCond .ne 7, 3) := by decide +kernel
theorem dX4_mean_24 : decode cX4_mean 24 = .ok (.ldc2_w 207, 3) := by decide +kernel
theorem dX4_mean_27 : decode cX4_mean 27 = .ok (.lreturn, 1) := by decide +kernel
theorem dX4_mean_28 : decode cX4_mean 28 = .ok (.lconst 0, 1) := by decide +kernel
theorem dX4_mean_29 : decode cX4_mean 29 = .ok (.lstore 4, 2) := by decide +kernel
theorem dX4_mean_31 : decode cX4_mean 31 = .ok (.iconst 0, 1) := by decide +kernel
theorem dX4_mean_32 : decode cX4_mean 32 = .ok (.istore 6, 2) := by decide +kernel
theorem dX4_mean_34 : decode cX4_mean 34 = .ok (.iload 6, 2) := by decide +kernel
theorem dX4_mean_36 : decode cX4_mean 36 = .ok (.aload_n 0, 1) := by decide +kernel
theorem dX4_mean_37 : decode cX4_mean 37 = .ok (.getfield 10, 3) := by decide +kernel
theorem dX4_mean_40 : decode cX4_mean 40 = .ok (.getfield 83, 3) := by decide +kernel
theorem dX4_mean_43 : decode cX4_mean 43 = .ok (.if_icmp .ge 47, 3) := by decide +kernel
theorem dX4_mean_46 : decode cX4_mean 46 = .ok (.bipush 8, 2) := by decide +kernel
theorem dX4_mean_48 : decode cX4_mean 48 = .ok (.aload_n 0, 1) := by decide +kernel
theorem dX4_mean_49 : decode cX4_mean 49 = .ok (.getfield 10, 3) := by decide +kernel
theorem dX4_mean_52 : decode cX4_mean 52 = .ok (.iload 6, 2) := by decide +kernel
theorem dX4_mean_54 : decode cX4_mean 54 = .ok (.invokevirtual 209, 3) := by decide +kernel
theorem dX4_mean_57 : decode cX4_mean 57 = .ok (.invokestatic 216, 3) := by decide +kernel
theorem dX4_mean_60 : decode cX4_mean 60 = .ok (.isub, 1) := by decide +kernel
theorem dX4_mean_61 : decode cX4_mean 61 = .ok (.istore 7, 2) := by decide +kernel
theorem dX4_mean_63 : decode cX4_mean 63 = .ok (.lload 4, 2) := by decide +kernel
theorem dX4_mean_65 : decode cX4_mean 65 = .ok (.aload_n 0, 1) := by decide +kernel
theorem dX4_mean_66 : decode cX4_mean 66 = .ok (.iload_n 1, 1) := by decide +kernel
theorem dX4_mean_67 : decode cX4_mean 67 = .ok (.iload 6, 2) := by decide +kernel
theorem dX4_mean_69 : decode cX4_mean 69 = .ok (.iload_n 2, 1) := by decide +kernel
theorem dX4_mean_70 : decode cX4_mean 70 = .ok (.invokevirtual 229, 3) := by decide +kernel
theorem dX4_mean_73 : decode cX4_mean 73 = .ok (.bipush 10, 2) := by decide +kernel
theorem dX4_mean_75 : decode cX4_mean 75 = .ok (.iload 7, 2) := by decide +kernel
theorem dX4_mean_77 : decode cX4_mean 77 = .ok (.invokestatic 221, 3) := by decide +kernel
theorem dX4_mean_80 : decode cX4_mean 80 = .ok (.lmul, 1) := by decide +kernel
theorem dX4_mean_81 : decode cX4_mean 81 = .ok (.ladd, 1) := by decide +kernel
theorem dX4_mean_82 : decode cX4_mean 82 = .ok (.lstore 4, 2) := by decide +kernel
theorem dX4_mean_84 : decode cX4_mean 84 = .ok (.iinc 6 1, 3) := by decide +kernel
theorem dX4_mean_87 : decode cX4_mean 87 = .ok (.goto (-53), 3) := by decide +kernel
theorem dX4_mean_90 : decode cX4_mean 90 = .ok (.lload 4, 2) := by decide +kernel
theorem dX4_mean_92 : decode cX4_mean 92 = .ok (.bipush 10, 2) := by decide +kernel
theorem dX4_mean_94 : decode cX4_mean 94 = .ok (.bipush 8, 2) := by decide +kernel
theorem dX4_mean_96 : decode cX4_mean 96 = .ok (.invokestatic 221, 3) := by decide +kernel
theorem dX4_mean_99 : decode cX4_mean 99 = .ok (.iload_n 3, 1) := by decide +kernel
theorem dX4_mean_100 : decode cX4_mean 100 = .ok (.invokestatic 225, 3) := by decide +kernel
theorem dX4_mean_103 : decode cX4_mean 103 = .ok (.lreturn, 1) := by decide +kernel
theorem dX4_see_0 : decode cX4_see 0 = .ok (.iload_n 1, 1) := by decide +kernel
theorem dX4_see_1 : decode cX4_see 1 = .ok (.iconst 0, 1) := by decide +kernel
theorem dX4_see_2 : decode cX4_see 2 = .ok (.bipush 20, 2) := by decide +kernel
theorem dX4_see_4 : decode cX4_see 4 = .ok (.invokestatic 46, 3) := by decide +kernel
theorem dX4_see_7 : decode cX4_see 7 = .ok (.ifCond .eq 21, 3) := by decide +kernel
theorem dX4_see_10 : decode cX4_see 10 = .ok (.aload_n 0, 1) := by decide +kernel
theorem dX4_see_11 : decode cX4_see 11 = .ok (.iload_n 2, 1) := by decide +kernel
theorem dX4_see_12 : decode cX4_see 12 = .ok (.invokevirtual 105, 3) := by decide +kernel
theorem dX4_see_15 : decode cX4_see 15 = .ok (.ifCond .eq 13, 3) := by decide +kernel
theorem dX4_see_18 : decode cX4_see 18 = .ok (.iload_n 3, 1) := by decide +kernel
theorem dX4_see_19 : decode cX4_see 19 = .ok (.iconst 0, 1) := by decide +kernel
theorem dX4_see_20 : decode cX4_see 20 = .ok (.bipush 15, 2) := by decide +kernel
theorem dX4_see_22 : decode cX4_see 22 = .ok (.invokestatic 46, 3) := by decide +kernel
theorem dX4_see_25 : decode cX4_see 25 = .ok (.ifCond .ne 5, 3) := by decide +kernel
theorem dX4_see_28 : decode cX4_see 28 = .ok (.iconst (-1), 1) := by decide +kernel
theorem dX4_see_29 : decode cX4_see 29 = .ok (.ireturn, 1) := by decide +kernel
theorem dX4_see_30 : decode cX4_see 30 = .ok (.aload_n 0, 1) := by decide +kernel
theorem dX4_see_31 : decode cX4_see 31 = .ok (.getfield 35, 3) := by decide +kernel
theorem dX4_see_34 : decode cX4_see 34 = .ok (.iload_n 1, 1) := by decide +kernel
theorem dX4_see_35 : decode cX4_see 35 = .ok (.iload_n 2, 1) := by decide +kernel
theorem dX4_see_36 : decode cX4_see 36 = .ok (.iload_n 3, 1) := by decide +kernel
theorem dX4_see_37 : decode cX4_see 37 = .ok (.invokevirtual 232, 3) := by decide +kernel
theorem dX4_see_40 : decode cX4_see 40 = .ok (.ifCond .eq 13, 3) := by decide +kernel
theorem dX4_see_43 : decode cX4_see 43 = .ok (.aload_n 0, 1) := by decide +kernel
theorem dX4_see_44 : decode cX4_see 44 = .ok (.getfield 35, 3) := by decide +kernel
theorem dX4_see_47 : decode cX4_see 47 = .ok (.getfield 74, 3) := by decide +kernel
theorem dX4_see_50 : decode cX4_see 50 = .ok (.goto 5, 3) := by decide +kernel
theorem dX4_see_53 : decode cX4_see 53 = .ok (.bipush (-3), 2) := by decide +kernel
theorem dX4_see_55 : decode cX4_see 55 = .ok (.ireturn, 1) := by decide +kernel
theorem dX4_forget_0 : decode cX4_forget 0 = .ok (.iload_n 1, 1) := by decide +kernel
theorem dX4_forget_1 : decode cX4_forget 1 = .ok (.iconst 0, 1) := by decide +kernel
theorem dX4_forget_2 : decode cX4_forget 2 = .ok (.aload_n 0, 1) := by decide +kernel
theorem dX4_forget_3 : decode cX4_forget 3 = .ok (.getfield 35, 3) := by decide +kernel
theorem dX4_forget_6 : decode cX4_forget 6 = .ok (.getfield 74, 3) := by decide +kernel
theorem dX4_forget_9 : decode cX4_forget 9 = .ok (.invokestatic 46, 3) := by decide +kernel
theorem dX4_forget_12 : decode cX4_forget 12 = .ok (.ifCond .ne 5, 3) := by decide +kernel
theorem dX4_forget_15 : decode cX4_forget 15 = .ok (.iconst (-1), 1) := by decide +kernel
theorem dX4_forget_16 : decode cX4_forget 16 = .ok (.ireturn, 1) := by decide +kernel
theorem dX4_forget_17 : decode cX4_forget 17 = .ok (.aload_n 0, 1) := by decide +kernel
theorem dX4_forget_18 : decode cX4_forget 18 = .ok (.getfield 35, 3) := by decide +kernel
theorem dX4_forget_21 : decode cX4_forget 21 = .ok (.getfield 74, 3) := by decide +kernel
theorem dX4_forget_24 : decode cX4_forget 24 = .ok (.istore_n 2, 1) := by decide +kernel
theorem dX4_forget_25 : decode cX4_forget 25 = .ok (.aload_n 0, 1) := by decide +kernel
theorem dX4_forget_26 : decode cX4_forget 26 = .ok (.getfield 35, 3) := by decide +kernel
theorem dX4_forget_29 : decode cX4_forget 29 = .ok (.iload_n 1, 1) := by decide +kernel
theorem dX4_forget_30 : decode cX4_forget 30 = .ok (.putfield 74, 3) := by decide +kernel
theorem dX4_forget_33 : decode cX4_forget 33 = .ok (.iload_n 2, 1) := by decide +kernel
theorem dX4_forget_34 : decode cX4_forget 34 = .ok (.ireturn, 1) := by decide +kernel
theorem dX4_kinds_0 : decode cX4_kinds 0 = .ok (.aload_n 0, 1) := by decide +kernel
theorem dX4_kinds_1 : decode cX4_kinds 1 = .ok (.iload_n 1, 1) := by decide +kernel
theorem dX4_kinds_2 : decode cX4_kinds 2 = .ok (.invokevirtual 105, 3) := by decide +kernel
theorem dX4_kinds_5 : decode cX4_kinds 5 = .ok (.ifCond .ne 5, 3) := by decide +kernel
theorem dX4_kinds_8 : decode cX4_kinds 8 = .ok (.iconst (-1), 1) := by decide +kernel
theorem dX4_kinds_9 : decode cX4_kinds 9 = .ok (.ireturn, 1) := by decide +kernel
theorem dX4_kinds_10 : decode cX4_kinds 10 = .ok (.iconst 0, 1) := by decide +kernel
theorem dX4_kinds_11 : decode cX4_kinds 11 = .ok (.istore_n 2, 1) := by decide +kernel
theorem dX4_kinds_12 : decode cX4_kinds 12 = .ok (.iconst 0, 1) := by decide +kernel
theorem dX4_kinds_13 : decode cX4_kinds 13 = .ok (.istore_n 3, 1) := by decide +kernel
theorem dX4_kinds_14 : decode cX4_kinds 14 = .ok (.iload_n 3, 1) := by decide +kernel
theorem dX4_kinds_15 : decode cX4_kinds 15 = .ok (.iconst 4, 1) := by decide +kernel
theorem dX4_kinds_16 : decode cX4_kinds 16 = .ok (.if_icmp .ge 54, 3) := by decide +kernel
theorem dX4_kinds_19 : decode cX4_kinds 19 = .ok (.aload_n 0, 1) := by decide +kernel
theorem dX4_kinds_20 : decode cX4_kinds 20 = .ok (.getfield 16, 3) := by decide +kernel
theorem dX4_kinds_23 : decode cX4_kinds 23 = .ok (.aload_n 0, 1) := by decide +kernel
theorem dX4_kinds_24 : decode cX4_kinds 24 = .ok (.getfield 10, 3) := by decide +kernel
theorem dX4_kinds_27 : decode cX4_kinds 27 = .ok (.invokevirtual 71, 3) := by decide +kernel
theorem dX4_kinds_30 : decode cX4_kinds 30 = .ok (.aload_n 0, 1) := by decide +kernel
theorem dX4_kinds_31 : decode cX4_kinds 31 = .ok (.getfield 16, 3) := by decide +kernel
theorem dX4_kinds_34 : decode cX4_kinds 34 = .ok (.getfield 108, 3) := by decide +kernel
theorem dX4_kinds_37 : decode cX4_kinds 37 = .ok (.iload_n 1, 1) := by decide +kernel
theorem dX4_kinds_38 : decode cX4_kinds 38 = .ok (.iload_n 3, 1) := by decide +kernel
theorem dX4_kinds_39 : decode cX4_kinds 39 = .ok (.iastore, 1) := by decide +kernel
theorem dX4_kinds_40 : decode cX4_kinds 40 = .ok (.iload_n 2, 1) := by decide +kernel
theorem dX4_kinds_41 : decode cX4_kinds 41 = .ok (.aload_n 0, 1) := by decide +kernel
theorem dX4_kinds_42 : decode cX4_kinds 42 = .ok (.getfield 35, 3) := by decide +kernel
theorem dX4_kinds_45 : decode cX4_kinds 45 = .ok (.aload_n 0, 1) := by decide +kernel
theorem dX4_kinds_46 : decode cX4_kinds 46 = .ok (.getfield 16, 3) := by decide +kernel
theorem dX4_kinds_49 : decode cX4_kinds 49 = .ok (.invokevirtual 234, 3) := by decide +kernel
theorem dX4_kinds_52 : decode cX4_kinds 52 = .ok (.ifCond .eq 9, 3) := by decide +kernel
theorem dX4_kinds_55 : decode cX4_kinds 55 = .ok (.iconst 1, 1) := by decide +kernel
theorem dX4_kinds_56 : decode cX4_kinds 56 = .ok (.iload_n 3, 1) := by decide +kernel
theorem dX4_kinds_57 : decode cX4_kinds 57 = .ok (.ishl, 1) := by decide +kernel
theorem dX4_kinds_58 : decode cX4_kinds 58 = .ok (.goto 4, 3) := by decide +kernel
theorem dX4_kinds_61 : decode cX4_kinds 61 = .ok (.iconst 0, 1) := by decide +kernel
theorem dX4_kinds_62 : decode cX4_kinds 62 = .ok (.ior, 1) := by decide +kernel
theorem dX4_kinds_63 : decode cX4_kinds 63 = .ok (.istore_n 2, 1) := by decide +kernel
theorem dX4_kinds_64 : decode cX4_kinds 64 = .ok (.iinc 3 1, 3) := by decide +kernel
theorem dX4_kinds_67 : decode cX4_kinds 67 = .ok (.goto (-53), 3) := by decide +kernel
theorem dX4_kinds_70 : decode cX4_kinds 70 = .ok (.iload_n 2, 1) := by decide +kernel
theorem dX4_kinds_71 : decode cX4_kinds 71 = .ok (.ireturn, 1) := by decide +kernel
theorem dX4_ups_0 : decode cX4_ups 0 = .ok (.aload_n 0, 1) := by decide +kernel
theorem dX4_ups_1 : decode cX4_ups 1 = .ok (.iload_n 1, 1) := by decide +kernel
theorem dX4_ups_2 : decode cX4_ups 2 = .ok (.invokevirtual 105, 3) := by decide +kernel
theorem dX4_ups_5 : decode cX4_ups 5 = .ok (.ifCond .eq 11, 3) := by decide +kernel
theorem dX4_ups_8 : decode cX4_ups 8 = .ok (.aload_n 0, 1) := by decide +kernel
theorem dX4_ups_9 : decode cX4_ups 9 = .ok (.iload_n 1, 1) := by decide +kernel
theorem dX4_ups_10 : decode cX4_ups 10 = .ok (.invokevirtual 238, 3) := by decide +kernel
theorem dX4_ups_13 : decode cX4_ups 13 = .ok (.goto 4, 3) := by decide +kernel
theorem dX4_ups_16 : decode cX4_ups 16 = .ok (.iconst (-1), 1) := by decide +kernel
theorem dX4_ups_17 : decode cX4_ups 17 = .ok (.ireturn, 1) := by decide +kernel
theorem dX4_ask_0 : decode cX4_ask 0 = .ok (.aload_n 0, 1) := by decide +kernel
theorem dX4_ask_1 : decode cX4_ask 1 = .ok (.iload_n 1, 1) := by decide +kernel
theorem dX4_ask_2 : decode cX4_ask 2 = .ok (.invokevirtual 105, 3) := by decide +kernel
theorem dX4_ask_5 : decode cX4_ask 5 = .ok (.ifCond .eq 10, 3) := by decide +kernel
theorem dX4_ask_8 : decode cX4_ask 8 = .ok (.iload_n 2, 1) := by decide +kernel
theorem dX4_ask_9 : decode cX4_ask 9 = .ok (.invokestatic 178, 3) := by decide +kernel
theorem dX4_ask_12 : decode cX4_ask 12 = .ok (.ifCond .ne 5, 3) := by decide +kernel
theorem dX4_ask_15 : decode cX4_ask 15 = .ok (.iconst (-1), 1) := by decide +kernel
theorem dX4_ask_16 : decode cX4_ask 16 = .ok (.ireturn, 1) := by decide +kernel
theorem dX4_ask_17 : decode cX4_ask 17 = .ok (.aload_n 0, 1) := by decide +kernel
theorem dX4_ask_18 : decode cX4_ask 18 = .ok (.iload_n 1, 1) := by decide +kernel
theorem dX4_ask_19 : decode cX4_ask 19 = .ok (.invokevirtual 238, 3) := by decide +kernel
theorem dX4_ask_22 : decode cX4_ask 22 = .ok (.invokestatic 216, 3) := by decide +kernel
theorem dX4_ask_25 : decode cX4_ask 25 = .ok (.iconst 2, 1) := by decide +kernel
theorem dX4_ask_26 : decode cX4_ask 26 = .ok (.if_icmp .ge 6, 3) := by decide +kernel
theorem dX4_ask_29 : decode cX4_ask 29 = .ok (.bipush (-4), 2) := by decide +kernel
theorem dX4_ask_31 : decode cX4_ask 31 = .ok (.ireturn, 1) := by decide +kernel
theorem dX4_ask_32 : decode cX4_ask 32 = .ok (.iload_n 2, 1) := by decide +kernel
theorem dX4_ask_33 : decode cX4_ask 33 = .ok (.ifCond .ne 7, 3) := by decide +kernel
theorem dX4_ask_36 : decode cX4_ask 36 = .ok (.iload_n 1, 1) := by decide +kernel
theorem dX4_ask_37 : decode cX4_ask 37 = .ok (.goto 4, 3) := by decide +kernel
theorem dX4_ask_40 : decode cX4_ask 40 = .ok (.iconst 1, 1) := by decide +kernel
theorem dX4_ask_41 : decode cX4_ask 41 = .ok (.ireturn, 1) := by decide +kernel
theorem dX4_drift_0 : decode cX4_drift 0 = .ok (.iload_n 2, 1) := by decide +kernel
theorem dX4_drift_1 : decode cX4_drift 1 = .ok (.iconst 1, 1) := by decide +kernel
theorem dX4_drift_2 : decode cX4_drift 2 = .ok (.bipush 60, 2) := by decide +kernel
theorem dX4_drift_4 : decode cX4_drift 4 = .ok (.invokestatic 46, 3) := by decide +kernel
theorem dX4_drift_7 : decode cX4_drift 7 = .ok (.ifCond .eq 10, 3) := by decide +kernel
theorem dX4_drift_10 : decode cX4_drift 10 = .ok (.iload_n 3, 1) := by decide +kernel
theorem dX4_drift_11 : decode cX4_drift 11 = .ok (.invokestatic 178, 3) := by decide +kernel
theorem dX4_drift_14 : decode cX4_drift 14 = .ok (.ifCond .ne 5, 3) := by decide +kernel
theorem dX4_drift_17 : decode cX4_drift 17 = .ok (.iconst (-1), 1) := by decide +kernel
theorem dX4_drift_18 : decode cX4_drift 18 = .ok (.ireturn, 1) := by decide +kernel
theorem dX4_drift_19 : decode cX4_drift 19 = .ok (.aload_n 0, 1) := by decide +kernel
theorem dX4_drift_20 : decode cX4_drift 20 = .ok (.getfield 10, 3) := by decide +kernel
theorem dX4_drift_23 : decode cX4_drift 23 = .ok (.getfield 83, 3) := by decide +kernel
theorem dX4_drift_26 : decode cX4_drift 26 = .ok (.ifCond .ne 6, 3) := by decide +kernel
theorem dX4_drift_29 : decode cX4_drift 29 = .ok (.bipush (-2), 2) := by decide +kernel
theorem dX4_drift_31 : decode cX4_drift 31 = .ok (.ireturn, 1) := by decide +kernel
theorem dX4_drift_32 : decode cX4_drift 32 = .ok (.aload_n 0, 1) := by decide +kernel
theorem dX4_drift_33 : decode cX4_drift 33 = .ok (.getfield 16, 3) := by decide +kernel
theorem dX4_drift_36 : decode cX4_drift 36 = .ok (.aload_n 0, 1) := by decide +kernel
theorem dX4_drift_37 : decode cX4_drift 37 = .ok (.getfield 10, 3) := by decide +kernel
theorem dX4_drift_40 : decode cX4_drift 40 = .ok (.invokevirtual 71, 3) := by decide +kernel
theorem dX4_drift_43 : decode cX4_drift 43 = .ok (.iconst 0, 1) := by decide +kernel
theorem dX4_drift_44 : decode cX4_drift 44 = .ok (.istore 4, 2) := by decide +kernel
theorem dX4_drift_46 : decode cX4_drift 46 = .ok (.iload_n 1, 1) := by decide +kernel
theorem dX4_drift_47 : decode cX4_drift 47 = .ok (.istore 5, 2) := by decide +kernel
theorem dX4_drift_49 : decode cX4_drift 49 = .ok (.iconst 0, 1) := by decide +kernel
theorem dX4_drift_50 : decode cX4_drift 50 = .ok (.istore 6, 2) := by decide +kernel
theorem dX4_drift_52 : decode cX4_drift 52 = .ok (.iload 6, 2) := by decide +kernel
theorem dX4_drift_54 : decode cX4_drift 54 = .ok (.iload_n 2, 1) := by decide +kernel
theorem dX4_drift_55 : decode cX4_drift 55 = .ok (.if_icmp .ge 69, 3) := by decide +kernel
theorem dX4_drift_58 : decode cX4_drift 58 = .ok (.iload 5, 2) := by decide +kernel
theorem dX4_drift_60 : decode cX4_drift 60 = .ok (.ldc 241, 2) := by decide +kernel
theorem dX4_drift_62 : decode cX4_drift 62 = .ok (.imul, 1) := by decide +kernel
theorem dX4_drift_63 : decode cX4_drift 63 = .ok (.sipush 12345, 3) := by decide +kernel
theorem dX4_drift_66 : decode cX4_drift 66 = .ok (.iadd, 1) := by decide +kernel
theorem dX4_drift_67 : decode cX4_drift 67 = .ok (.istore 5, 2) := by decide +kernel
theorem dX4_drift_69 : decode cX4_drift 69 = .ok (.iload 5, 2) := by decide +kernel
theorem dX4_drift_71 : decode cX4_drift 71 = .ok (.bipush 16, 2) := by decide +kernel
theorem dX4_drift_73 : decode cX4_drift 73 = .ok (.iushr, 1) := by decide +kernel
theorem dX4_drift_74 : decode cX4_drift 74 = .ok (.sipush 32767, 3) := by decide +kernel
theorem dX4_drift_77 : decode cX4_drift 77 = .ok (.iand, 1) := by decide +kernel
theorem dX4_drift_78 : decode cX4_drift 78 = .ok (.istore 7, 2) := by decide +kernel
theorem dX4_drift_80 : decode cX4_drift 80 = .ok (.aload_n 0, 1) := by decide +kernel
theorem dX4_drift_81 : decode cX4_drift 81 = .ok (.getfield 16, 3) := by decide +kernel
theorem dX4_drift_84 : decode cX4_drift 84 = .ok (.getfield 112, 3) := by decide +kernel
theorem dX4_drift_87 : decode cX4_drift 87 = .ok (.iload 7, 2) := by decide +kernel
theorem dX4_drift_89 : decode cX4_drift 89 = .ok (.aload_n 0, 1) := by decide +kernel
theorem dX4_drift_90 : decode cX4_drift 90 = .ok (.getfield 10, 3) := by decide +kernel
theorem dX4_drift_93 : decode cX4_drift 93 = .ok (.getfield 83, 3) := by decide +kernel
theorem dX4_drift_96 : decode cX4_drift 96 = .ok (.irem, 1) := by decide +kernel
theorem dX4_drift_97 : decode cX4_drift 97 = .ok (.iload 7, 2) := by decide +kernel
theorem dX4_drift_99 : decode cX4_drift 99 = .ok (.bipush 16, 2) := by decide +kernel
theorem dX4_drift_101 : decode cX4_drift 101 = .ok (.idiv, 1) := by decide +kernel
theorem dX4_drift_102 : decode cX4_drift 102 = .ok (.bipush 16, 2) := by decide +kernel
theorem dX4_drift_104 : decode cX4_drift 104 = .ok (.irem, 1) := by decide +kernel
theorem dX4_drift_105 : decode cX4_drift 105 = .ok (.iastore, 1) := by decide +kernel
theorem dX4_drift_106 : decode cX4_drift 106 = .ok (.iload 4, 2) := by decide +kernel
theorem dX4_drift_108 : decode cX4_drift 108 = .ok (.aload_n 0, 1) := by decide +kernel
theorem dX4_drift_109 : decode cX4_drift 109 = .ok (.getfield 16, 3) := by decide +kernel
theorem dX4_drift_112 : decode cX4_drift 112 = .ok (.invokevirtual 175, 3) := by decide +kernel
theorem dX4_drift_115 : decode cX4_drift 115 = .ok (.iadd, 1) := by decide +kernel
theorem dX4_drift_116 : decode cX4_drift 116 = .ok (.istore 4, 2) := by decide +kernel
theorem dX4_drift_118 : decode cX4_drift 118 = .ok (.iinc 6 1, 3) := by decide +kernel
theorem dX4_drift_121 : decode cX4_drift 121 = .ok (.goto (-69), 3) := by decide +kernel
theorem dX4_drift_124 : decode cX4_drift 124 = .ok (.iload_n 3, 1) := by decide +kernel
theorem dX4_drift_125 : decode cX4_drift 125 = .ok (.ifCond .ne 8, 3) := by decide +kernel
theorem dX4_drift_128 : decode cX4_drift 128 = .ok (.iload 4, 2) := by decide +kernel
theorem dX4_drift_130 : decode cX4_drift 130 = .ok (.goto 10, 3) := by decide +kernel
theorem dX4_drift_133 : decode cX4_drift 133 = .ok (.aload_n 0, 1) := by decide +kernel
theorem dX4_drift_134 : decode cX4_drift 134 = .ok (.getfield 16, 3) := by decide +kernel
theorem dX4_drift_137 : decode cX4_drift 137 = .ok (.invokevirtual 98, 3) := by decide +kernel
theorem dX4_drift_140 : decode cX4_drift 140 = .ok (.ireturn, 1) := by decide +kernel
theorem dX4_keep_0 : decode cX4_keep 0 = .ok (.iload_n 1, 1) := by decide +kernel
theorem dX4_keep_1 : decode cX4_keep 1 = .ok (.invokestatic 242, 3) := by decide +kernel
theorem dX4_keep_4 : decode cX4_keep 4 = .ok (.ifCond .ne 5, 3) := by decide +kernel
theorem dX4_keep_7 : decode cX4_keep 7 = .ok (.iconst (-1), 1) := by decide +kernel
theorem dX4_keep_8 : decode cX4_keep 8 = .ok (.ireturn, 1) := by decide +kernel
theorem dX4_keep_9 : decode cX4_keep 9 = .ok (.aload_n 0, 1) := by decide +kernel
theorem dX4_keep_10 : decode cX4_keep 10 = .ok (.getfield 77, 3) := by decide +kernel
theorem dX4_keep_13 : decode cX4_keep 13 = .ok (.iload_n 1, 1) := by decide +kernel
theorem dX4_keep_14 : decode cX4_keep 14 = .ok (.ishr, 1) := by decide +kernel
theorem dX4_keep_15 : decode cX4_keep 15 = .ok (.iconst 1, 1) := by decide +kernel
theorem dX4_keep_16 : decode cX4_keep 16 = .ok (.iand, 1) := by decide +kernel
theorem dX4_keep_17 : decode cX4_keep 17 = .ok (.istore_n 2, 1) := by decide +kernel
theorem dX4_keep_18 : decode cX4_keep 18 = .ok (.aload_n 0, 1) := by decide +kernel
theorem dX4_keep_19 : decode cX4_keep 19 = .ok (.iload_n 1, 1) := by decide +kernel
theorem dX4_keep_20 : decode cX4_keep 20 = .ok (.invokevirtual 245, 3) := by decide +kernel
theorem dX4_keep_23 : decode cX4_keep 23 = .ok (.aload_n 0, 1) := by decide +kernel
theorem dX4_keep_24 : decode cX4_keep 24 = .ok (.getfield 10, 3) := by decide +kernel
theorem dX4_keep_27 : decode cX4_keep 27 = .ok (.invokevirtual 71, 3) := by decide +kernel
theorem dX4_keep_30 : decode cX4_keep 30 = .ok (.aload_n 0, 1) := by decide +kernel
theorem dX4_keep_31 : decode cX4_keep 31 = .ok (.dup, 1) := by decide +kernel
theorem dX4_keep_32 : decode cX4_keep 32 = .ok (.getfield 77, 3) := by decide +kernel
theorem dX4_keep_35 : decode cX4_keep 35 = .ok (.iconst 1, 1) := by decide +kernel
theorem dX4_keep_36 : decode cX4_keep 36 = .ok (.iload_n 1, 1) := by decide +kernel
theorem dX4_keep_37 : decode cX4_keep 37 = .ok (.ishl, 1) := by decide +kernel
theorem dX4_keep_38 : decode cX4_keep 38 = .ok (.ior, 1) := by decide +kernel
theorem dX4_keep_39 : decode cX4_keep 39 = .ok (.putfield 77, 3) := by decide +kernel
theorem dX4_keep_42 : decode cX4_keep 42 = .ok (.iload_n 2, 1) := by decide +kernel
theorem dX4_keep_43 : decode cX4_keep 43 = .ok (.ireturn, 1) := by decide +kernel
theorem dX4_back_0 : decode cX4_back 0 = .ok (.iload_n 1, 1) := by decide +kernel
theorem dX4_back_1 : decode cX4_back 1 = .ok (.invokestatic 242, 3) := by decide +kernel
theorem dX4_back_4 : decode cX4_back 4 = .ok (.ifCond .ne 5, 3) := by decide +kernel
theorem dX4_back_7 : decode cX4_back 7 = .ok (.iconst (-1), 1) := by decide +kernel
theorem dX4_back_8 : decode cX4_back 8 = .ok (.ireturn, 1) := by decide +kernel
theorem dX4_back_9 : decode cX4_back 9 = .ok (.aload_n 0, 1) := by decide +kernel
theorem dX4_back_10 : decode cX4_back 10 = .ok (.getfield 77, 3) := by decide +kernel
theorem dX4_back_13 : decode cX4_back 13 = .ok (.iload_n 1, 1) := by decide +kernel
theorem dX4_back_14 : decode cX4_back 14 = .ok (.ishr, 1) := by decide +kernel
theorem dX4_back_15 : decode cX4_back 15 = .ok (.iconst 1, 1) := by decide +kernel
theorem dX4_back_16 : decode cX4_back 16 = .ok (.iand, 1) := by decide +kernel
theorem dX4_back_17 : decode cX4_back 17 = .ok (.ifCond .ne 6, 3) := by decide +kernel
theorem dX4_back_20 : decode cX4_back 20 = .ok (.bipush (-2), 2) := by decide +kernel
theorem dX4_back_22 : decode cX4_back 22 = .ok (.ireturn, 1) := by decide +kernel
theorem dX4_back_23 : decode cX4_back 23 = .ok (.aload_n 0, 1) := by decide +kernel
theorem dX4_back_24 : decode cX4_back 24 = .ok (.getfield 10, 3) := by decide +kernel
theorem dX4_back_27 : decode cX4_back 27 = .ok (.aload_n 0, 1) := by decide +kernel
theorem dX4_back_28 : decode cX4_back 28 = .ok (.iload_n 1, 1) := by decide +kernel
theorem dX4_back_29 : decode cX4_back 29 = .ok (.invokevirtual 245, 3) := by decide +kernel
theorem dX4_back_32 : decode cX4_back 32 = .ok (.invokevirtual 71, 3) := by decide +kernel
theorem dX4_back_35 : decode cX4_back 35 = .ok (.aload_n 0, 1) := by decide +kernel
theorem dX4_back_36 : decode cX4_back 36 = .ok (.getfield 10, 3) := by decide +kernel
theorem dX4_back_39 : decode cX4_back 39 = .ok (.getfield 89, 3) := by decide +kernel
theorem dX4_back_42 : decode cX4_back 42 = .ok (.ireturn, 1) := by decide +kernel
theorem dX4_sheet_0 : decode cX4_sheet 0 = .ok (.aload_n 0, 1) := by decide +kernel
theorem dX4_sheet_1 : decode cX4_sheet 1 = .ok (.getfield 42, 3) := by decide +kernel
theorem dX4_sheet_4 : decode cX4_sheet 4 = .ok (.iload_n 1, 1) := by decide +kernel
theorem dX4_sheet_5 : decode cX4_sheet 5 = .ok (.invokevirtual 249, 3) := by decide +kernel
theorem dX4_sheet_8 : decode cX4_sheet 8 = .ok (.ifCond .eq 20, 3) := by decide +kernel
theorem dX4_sheet_11 : decode cX4_sheet 11 = .ok (.aload_n 0, 1) := by decide +kernel
theorem dX4_sheet_12 : decode cX4_sheet 12 = .ok (.getfield 42, 3) := by decide +kernel
theorem dX4_sheet_15 : decode cX4_sheet 15 = .ok (.iload_n 2, 1) := by decide +kernel
theorem dX4_sheet_16 : decode cX4_sheet 16 = .ok (.invokevirtual 252, 3) := by decide +kernel
theorem dX4_sheet_19 : decode cX4_sheet 19 = .ok (.ifCond .eq 9, 3) := by decide +kernel
theorem dX4_sheet_22 : decode cX4_sheet 22 = .ok (.iload_n 3, 1) := by decide +kernel
theorem dX4_sheet_23 : decode cX4_sheet 23 = .ok (.bipush 40, 2) := by decide +kernel
theorem dX4_sheet_25 : decode cX4_sheet 25 = .ok (.if_icmp .le 5, 3) := by decide +kernel
theorem dX4_sheet_28 : decode cX4_sheet 28 = .ok (.iconst (-1), 1) := by decide +kernel
theorem dX4_sheet_29 : decode cX4_sheet 29 = .ok (.ireturn, 1) := by decide +kernel
theorem dX4_sheet_30 : decode cX4_sheet 30 = .ok (.iload_n 3, 1) := by decide +kernel
theorem dX4_sheet_31 : decode cX4_sheet 31 = .ok (.ifCond .ge 6, 3) := by decide +kernel
theorem dX4_sheet_34 : decode cX4_sheet 34 = .ok (.bipush (-14), 2) := by decide +kernel
theorem dX4_sheet_36 : decode cX4_sheet 36 = .ok (.ireturn, 1) := by decide +kernel
theorem dX4_sheet_37 : decode cX4_sheet 37 = .ok (.aload_n 0, 1) := by decide +kernel
theorem dX4_sheet_38 : decode cX4_sheet 38 = .ok (.getfield 42, 3) := by decide +kernel
theorem dX4_sheet_41 : decode cX4_sheet 41 = .ok (.iload_n 1, 1) := by decide +kernel
theorem dX4_sheet_42 : decode cX4_sheet 42 = .ok (.iload_n 2, 1) := by decide +kernel
theorem dX4_sheet_43 : decode cX4_sheet 43 = .ok (.iload_n 3, 1) := by decide +kernel
theorem dX4_sheet_44 : decode cX4_sheet 44 = .ok (.invokevirtual 255, 3) := by decide +kernel
theorem dX4_sheet_47 : decode cX4_sheet 47 = .ok (.iconst 1, 1) := by decide +kernel
theorem dX4_sheet_48 : decode cX4_sheet 48 = .ok (.ireturn, 1) := by decide +kernel
theorem dX4_lay_0 : decode cX4_lay 0 = .ok (.aload_n 0, 1) := by decide +kernel
theorem dX4_lay_1 : decode cX4_lay 1 = .ok (.getfield 42, 3) := by decide +kernel
theorem dX4_lay_4 : decode cX4_lay 4 = .ok (.iload_n 1, 1) := by decide +kernel
theorem dX4_lay_5 : decode cX4_lay 5 = .ok (.invokevirtual 249, 3) := by decide +kernel
theorem dX4_lay_8 : decode cX4_lay 8 = .ok (.ifCond .ne 5, 3) := by decide +kernel
theorem dX4_lay_11 : decode cX4_lay 11 = .ok (.iconst (-1), 1) := by decide +kernel
theorem dX4_lay_12 : decode cX4_lay 12 = .ok (.ireturn, 1) := by decide +kernel
theorem dX4_lay_13 : decode cX4_lay 13 = .ok (.aload_n 0, 1) := by decide +kernel
theorem dX4_lay_14 : decode cX4_lay 14 = .ok (.getfield 42, 3) := by decide +kernel
theorem dX4_lay_17 : decode cX4_lay 17 = .ok (.iload_n 1, 1) := by decide +kernel
theorem dX4_lay_18 : decode cX4_lay 18 = .ok (.aload_n 0, 1) := by decide +kernel
theorem dX4_lay_19 : decode cX4_lay 19 = .ok (.getfield 42, 3) := by decide +kernel
theorem dX4_lay_22 : decode cX4_lay 22 = .ok (.getfield 259, 3) := by decide +kernel
theorem dX4_lay_25 : decode cX4_lay 25 = .ok (.iload_n 1, 1) := by decide +kernel
theorem dX4_lay_26 : decode cX4_lay 26 = .ok (.iaload, 1) := by decide +kernel
theorem dX4_lay_27 : decode cX4_lay 27 = .ok (.iload_n 2, 1) := by decide +kernel
theorem dX4_lay_28 : decode cX4_lay 28 = .ok (.iconst 1, 1) := by decide +kernel
theorem dX4_lay_29 : decode cX4_lay 29 = .ok (.invokevirtual 262, 3) := by decide +kernel
theorem dX4_lay_32 : decode cX4_lay 32 = .ok (.istore 4, 2) := by decide +kernel
theorem dX4_lay_34 : decode cX4_lay 34 = .ok (.iload 4, 2) := by decide +kernel
theorem dX4_lay_36 : decode cX4_lay 36 = .ok (.ifCond .eq 9, 3) := by decide +kernel
theorem dX4_lay_39 : decode cX4_lay 39 = .ok (.bipush (-10), 2) := by decide +kernel
theorem dX4_lay_41 : decode cX4_lay 41 = .ok (.iload 4, 2) := by decide +kernel
theorem dX4_lay_43 : decode cX4_lay 43 = .ok (.isub, 1) := by decide +kernel
theorem dX4_lay_44 : decode cX4_lay 44 = .ok (.ireturn, 1) := by decide +kernel
theorem dX4_lay_45 : decode cX4_lay 45 = .ok (.aload_n 0, 1) := by decide +kernel
theorem dX4_lay_46 : decode cX4_lay 46 = .ok (.getfield 42, 3) := by decide +kernel
theorem dX4_lay_49 : decode cX4_lay 49 = .ok (.iload_n 1, 1) := by decide +kernel
theorem dX4_lay_50 : decode cX4_lay 50 = .ok (.iload_n 2, 1) := by decide +kernel
theorem dX4_lay_51 : decode cX4_lay 51 = .ok (.iload_n 3, 1) := by decide +kernel
theorem dX4_lay_52 : decode cX4_lay 52 = .ok (.invokevirtual 266, 3) := by decide +kernel
theorem dX4_lay_55 : decode cX4_lay 55 = .ok (.iconst 1, 1) := by decide +kernel
theorem dX4_lay_56 : decode cX4_lay 56 = .ok (.ireturn, 1) := by decide +kernel
theorem dX4_read_0 : decode cX4_read 0 = .ok (.aload_n 0, 1) := by decide +kernel
theorem dX4_read_1 : decode cX4_read 1 = .ok (.getfield 42, 3) := by decide +kernel
theorem dX4_read_4 : decode cX4_read 4 = .ok (.iload_n 1, 1) := by decide +kernel
theorem dX4_read_5 : decode cX4_read 5 = .ok (.invokevirtual 249, 3) := by decide +kernel
theorem dX4_read_8 : decode cX4_read 8 = .ok (.ifCond .eq 25, 3) := by decide +kernel
theorem dX4_read_11 : decode cX4_read 11 = .ok (.aload_n 0, 1) := by decide +kernel
theorem dX4_read_12 : decode cX4_read 12 = .ok (.getfield 42, 3) := by decide +kernel
theorem dX4_read_15 : decode cX4_read 15 = .ok (.iload_n 2, 1) := by decide +kernel
theorem dX4_read_16 : decode cX4_read 16 = .ok (.invokevirtual 252, 3) := by decide +kernel
theorem dX4_read_19 : decode cX4_read 19 = .ok (.ifCond .eq 14, 3) := by decide +kernel
theorem dX4_read_22 : decode cX4_read 22 = .ok (.iload 4, 2) := by decide +kernel
theorem dX4_read_24 : decode cX4_read 24 = .ok (.iconst 0, 1) := by decide +kernel
theorem dX4_read_25 : decode cX4_read 25 = .ok (.bipush 10, 2) := by decide +kernel
theorem dX4_read_27 : decode cX4_read 27 = .ok (.invokestatic 46, 3) := by decide +kernel
theorem dX4_read_30 : decode cX4_read 30 = .ok (.ifCond .ne 5, 3) := by decide +kernel
theorem dX4_read_33 : decode cX4_read 33 = .ok (.iconst (-1), 1) := by decide +kernel
theorem dX4_read_34 : decode cX4_read 34 = .ok (.ireturn, 1) := by decide +kernel
theorem dX4_read_35 : decode cX4_read 35 = .ok (.aload_n 0, 1) := by decide +kernel
theorem dX4_read_36 : decode cX4_read 36 = .ok (.getfield 10, 3) := by decide +kernel
theorem dX4_read_39 : decode cX4_read 39 = .ok (.getfield 86, 3) := by decide +kernel
theorem dX4_read_42 : decode cX4_read 42 = .ok (.istore 5, 2) := by decide +kernel
theorem dX4_read_44 : decode cX4_read 44 = .ok (.iconst 0, 1) := by decide +kernel
theorem dX4_read_45 : decode cX4_read 45 = .ok (.istore 6, 2) := by decide +kernel
theorem dX4_read_47 : decode cX4_read 47 = .ok (.iload 6, 2) := by decide +kernel
theorem dX4_read_49 : decode cX4_read 49 = .ok (.iload 4, 2) := by decide +kernel
theorem dX4_read_51 : decode cX4_read 51 = .ok (.if_icmp .ge 70, 3) := by decide +kernel
theorem dX4_read_54 : decode cX4_read 54 = .ok (.iload_n 3, 1) := by decide +kernel
theorem dX4_read_55 : decode cX4_read 55 = .ok (.iconst 4, 1) := by decide +kernel
theorem dX4_read_56 : decode cX4_read 56 = .ok (.iload 6, 2) := by decide +kernel
theorem dX4_read_58 : decode cX4_read 58 = .ok (.imul, 1) := by decide +kernel
theorem dX4_read_59 : decode cX4_read 59 = .ok (.iadd, 1) := by decide +kernel
theorem dX4_read_60 : decode cX4_read 60 = .ok (.istore 7, 2) := by decide +kernel
theorem dX4_read_62 : decode cX4_read 62 = .ok (.aload_n 0, 1) := by decide +kernel
theorem dX4_read_63 : decode cX4_read 63 = .ok (.getfield 42, 3) := by decide +kernel
theorem dX4_read_66 : decode cX4_read 66 = .ok (.iload_n 1, 1) := by decide +kernel
theorem dX4_read_67 : decode cX4_read 67 = .ok (.iload_n 2, 1) := by decide +kernel
theorem dX4_read_68 : decode cX4_read 68 = .ok (.iload 7, 2) := by decide +kernel
theorem dX4_read_70 : decode cX4_read 70 = .ok (.iconst 4, 1) := by decide +kernel
theorem dX4_read_71 : decode cX4_read 71 = .ok (.invokevirtual 262, 3) := by decide +kernel
theorem dX4_read_74 : decode cX4_read 74 = .ok (.istore 8, 2) := by decide +kernel
theorem dX4_read_76 : decode cX4_read 76 = .ok (.iload 8, 2) := by decide +kernel
theorem dX4_read_78 : decode cX4_read 78 = .ok (.ifCond .eq 12, 3) := by decide +kernel
theorem dX4_read_81 : decode cX4_read 81 = .ok (.aload_n 0, 1) := by decide +kernel
theorem dX4_read_82 : decode cX4_read 82 = .ok (.iload 8, 2) := by decide +kernel
theorem dX4_read_84 : decode cX4_read 84 = .ok (.putfield 269, 3) := by decide +kernel
theorem dX4_read_87 : decode cX4_read 87 = .ok (.iload 6, 2) := by decide +kernel
theorem dX4_read_89 : decode cX4_read 89 = .ok (.ireturn, 1) := by decide +kernel
theorem dX4_read_90 : decode cX4_read 90 = .ok (.aload_n 0, 1) := by decide +kernel
theorem dX4_read_91 : decode cX4_read 91 = .ok (.iload_n 1, 1) := by decide +kernel
theorem dX4_read_92 : decode cX4_read 92 = .ok (.iload 7, 2) := by decide +kernel
theorem dX4_read_94 : decode cX4_read 94 = .ok (.invokevirtual 272, 3) := by decide +kernel
theorem dX4_read_97 : decode cX4_read 97 = .ok (.ifCond .ge 18, 3) := by decide +kernel
theorem dX4_read_100 : decode cX4_read 100 = .ok (.aload_n 0, 1) := by decide +kernel
theorem dX4_read_101 : decode cX4_read 101 = .ok (.getfield 10, 3) := by decide +kernel
theorem dX4_read_104 : decode cX4_read 104 = .ok (.iload 5, 2) := by decide +kernel
theorem dX4_read_106 : decode cX4_read 106 = .ok (.putfield 86, 3) := by decide +kernel
theorem dX4_read_109 : decode cX4_read 109 = .ok (.bipush (-20), 2) := by decide +kernel
theorem dX4_read_111 : decode cX4_read 111 = .ok (.iload 6, 2) := by decide +kernel
theorem dX4_read_113 : decode cX4_read 113 = .ok (.isub, 1) := by decide +kernel
theorem dX4_read_114 : decode cX4_read 114 = .ok (.ireturn, 1) := by decide +kernel
theorem dX4_read_115 : decode cX4_read 115 = .ok (.iinc 6 1, 3) := by decide +kernel
theorem dX4_read_118 : decode cX4_read 118 = .ok (.goto (-71), 3) := by decide +kernel
theorem dX4_read_121 : decode cX4_read 121 = .ok (.aload_n 0, 1) := by decide +kernel
theorem dX4_read_122 : decode cX4_read 122 = .ok (.iconst 0, 1) := by decide +kernel
theorem dX4_read_123 : decode cX4_read 123 = .ok (.putfield 269, 3) := by decide +kernel
theorem dX4_read_126 : decode cX4_read 126 = .ok (.iload 4, 2) := by decide +kernel
theorem dX4_read_128 : decode cX4_read 128 = .ok (.ireturn, 1) := by decide +kernel
theorem dX4_torn_0 : decode cX4_torn 0 = .ok (.aload_n 0, 1) := by decide +kernel
theorem dX4_torn_1 : decode cX4_torn 1 = .ok (.getfield 269, 3) := by decide +kernel
theorem dX4_torn_4 : decode cX4_torn 4 = .ok (.ireturn, 1) := by decide +kernel
theorem dX4_count_0 : decode cX4_count 0 = .ok (.iload_n 1, 1) := by decide +kernel
theorem dX4_count_1 : decode cX4_count 1 = .ok (.tableswitch 120 0 5 #[39, 47, 55, 63, 90, 108], 39) := by decide +kernel
theorem dX4_count_40 : decode cX4_count 40 = .ok (.aload_n 0, 1) := by decide +kernel
theorem dX4_count_41 : decode cX4_count 41 = .ok (.getfield 35, 3) := by decide +kernel
theorem dX4_count_44 : decode cX4_count 44 = .ok (.getfield 74, 3) := by decide +kernel
theorem dX4_count_47 : decode cX4_count 47 = .ok (.ireturn, 1) := by decide +kernel
theorem dX4_count_48 : decode cX4_count 48 = .ok (.aload_n 0, 1) := by decide +kernel
theorem dX4_count_49 : decode cX4_count 49 = .ok (.getfield 77, 3) := by decide +kernel
theorem dX4_count_52 : decode cX4_count 52 = .ok (.invokestatic 216, 3) := by decide +kernel
theorem dX4_count_55 : decode cX4_count 55 = .ok (.ireturn, 1) := by decide +kernel
theorem dX4_count_56 : decode cX4_count 56 = .ok (.aload_n 0, 1) := by decide +kernel
theorem dX4_count_57 : decode cX4_count 57 = .ok (.getfield 28, 3) := by decide +kernel
theorem dX4_count_60 : decode cX4_count 60 = .ok (.getfield 54, 3) := by decide +kernel
theorem dX4_count_63 : decode cX4_count 63 = .ok (.ireturn, 1) := by decide +kernel
theorem dX4_count_64 : decode cX4_count 64 = .ok (.aload_n 0, 1) := by decide +kernel
theorem dX4_count_65 : decode cX4_count 65 = .ok (.getfield 42, 3) := by decide +kernel
theorem dX4_count_68 : decode cX4_count 68 = .ok (.getfield 275, 3) := by decide +kernel
theorem dX4_count_71 : decode cX4_count 71 = .ok (.iconst 0, 1) := by decide +kernel
theorem dX4_count_72 : decode cX4_count 72 = .ok (.iaload, 1) := by decide +kernel
theorem dX4_count_73 : decode cX4_count 73 = .ok (.ifCond .ge 8, 3) := by decide +kernel
theorem dX4_count_76 : decode cX4_count 76 = .ok (.bipush (-4), 2) := by decide +kernel
theorem dX4_count_78 : decode cX4_count 78 = .ok (.goto 12, 3) := by decide +kernel
theorem dX4_count_81 : decode cX4_count 81 = .ok (.aload_n 0, 1) := by decide +kernel
theorem dX4_count_82 : decode cX4_count 82 = .ok (.getfield 42, 3) := by decide +kernel
theorem dX4_count_85 : decode cX4_count 85 = .ok (.getfield 275, 3) := by decide +kernel
theorem dX4_count_88 : decode cX4_count 88 = .ok (.iconst 0, 1) := by decide +kernel
theorem dX4_count_89 : decode cX4_count 89 = .ok (.iaload, 1) := by decide +kernel
theorem dX4_count_90 : decode cX4_count 90 = .ok (.ireturn, 1) := by decide +kernel
theorem dX4_count_91 : decode cX4_count 91 = .ok (.aload_n 0, 1) := by decide +kernel
theorem dX4_count_92 : decode cX4_count 92 = .ok (.getfield 10, 3) := by decide +kernel
theorem dX4_count_95 : decode cX4_count 95 = .ok (.getfield 115, 3) := by decide +kernel
theorem dX4_count_98 : decode cX4_count 98 = .ok (.aload_n 0, 1) := by decide +kernel
theorem dX4_count_99 : decode cX4_count 99 = .ok (.getfield 10, 3) := by decide +kernel
theorem dX4_count_102 : decode cX4_count 102 = .ok (.getfield 83, 3) := by decide +kernel
theorem dX4_count_105 : decode cX4_count 105 = .ok (.invokestatic 278, 3) := by decide +kernel
theorem dX4_count_108 : decode cX4_count 108 = .ok (.ireturn, 1) := by decide +kernel
theorem dX4_count_109 : decode cX4_count 109 = .ok (.aload_n 0, 1) := by decide +kernel
theorem dX4_count_110 : decode cX4_count 110 = .ok (.getfield 10, 3) := by decide +kernel
theorem dX4_count_113 : decode cX4_count 113 = .ok (.getfield 145, 3) := by decide +kernel
theorem dX4_count_116 : decode cX4_count 116 = .ok (.iconst 4, 1) := by decide +kernel
theorem dX4_count_117 : decode cX4_count 117 = .ok (.invokestatic 278, 3) := by decide +kernel
theorem dX4_count_120 : decode cX4_count 120 = .ok (.ireturn, 1) := by decide +kernel
theorem dX4_count_121 : decode cX4_count 121 = .ok (.iconst (-1), 1) := by decide +kernel
theorem dX4_count_122 : decode cX4_count 122 = .ok (.ireturn, 1) := by decide +kernel
theorem dX4_within_0 : decode cX4_within 0 = .ok (.iload_n 0, 1) := by decide +kernel
theorem dX4_within_1 : decode cX4_within 1 = .ok (.iload_n 1, 1) := by decide +kernel
theorem dX4_within_2 : decode cX4_within 2 = .ok (.if_icmp .lt 12, 3) := by decide +kernel
theorem dX4_within_5 : decode cX4_within 5 = .ok (.iload_n 0, 1) := by decide +kernel
theorem dX4_within_6 : decode cX4_within 6 = .ok (.iload_n 2, 1) := by decide +kernel
theorem dX4_within_7 : decode cX4_within 7 = .ok (.if_icmp .gt 7, 3) := by decide +kernel
theorem dX4_within_10 : decode cX4_within 10 = .ok (.iconst 1, 1) := by decide +kernel
theorem dX4_within_11 : decode cX4_within 11 = .ok (.goto 4, 3) := by decide +kernel
theorem dX4_within_14 : decode cX4_within 14 = .ok (.iconst 0, 1) := by decide +kernel
theorem dX4_within_15 : decode cX4_within 15 = .ok (.ireturn, 1) := by decide +kernel
theorem dX4_isReporter_0 : decode cX4_isReporter 0 = .ok (.iload_n 0, 1) := by decide +kernel
theorem dX4_isReporter_1 : decode cX4_isReporter 1 = .ok (.iconst 0, 1) := by decide +kernel
theorem dX4_isReporter_2 : decode cX4_isReporter 2 = .ok (.iconst 3, 1) := by decide +kernel
theorem dX4_isReporter_3 : decode cX4_isReporter 3 = .ok (.invokestatic 46, 3) := by decide +kernel
theorem dX4_isReporter_6 : decode cX4_isReporter 6 = .ok (.ireturn, 1) := by decide +kernel
theorem dX4_isEnd_0 : decode cX4_isEnd 0 = .ok (.iload_n 0, 1) := by decide +kernel
theorem dX4_isEnd_1 : decode cX4_isEnd 1 = .ok (.iconst 0, 1) := by decide +kernel
theorem dX4_isEnd_2 : decode cX4_isEnd 2 = .ok (.iconst 3, 1) := by decide +kernel
theorem dX4_isEnd_3 : decode cX4_isEnd 3 = .ok (.invokestatic 46, 3) := by decide +kernel
theorem dX4_isEnd_6 : decode cX4_isEnd 6 = .ok (.ireturn, 1) := by decide +kernel
theorem dX4_isDay_0 : decode cX4_isDay 0 = .ok (.iload_n 0, 1) := by decide +kernel
theorem dX4_isDay_1 : decode cX4_isDay 1 = .ok (.iconst 0, 1) := by decide +kernel
theorem dX4_isDay_2 : decode cX4_isDay 2 = .ok (.bipush 99, 2) := by decide +kernel
theorem dX4_isDay_4 : decode cX4_isDay 4 = .ok (.invokestatic 46, 3) := by decide +kernel
theorem dX4_isDay_7 : decode cX4_isDay 7 = .ok (.ireturn, 1) := by decide +kernel
theorem dX4_isRunAhead_0 : decode cX4_isRunAhead 0 = .ok (.iload_n 0, 1) := by decide +kernel
theorem dX4_isRunAhead_1 : decode cX4_isRunAhead 1 = .ok (.iconst 0, 1) := by decide +kernel
theorem dX4_isRunAhead_2 : decode cX4_isRunAhead 2 = .ok (.bipush 60, 2) := by decide +kernel
theorem dX4_isRunAhead_4 : decode cX4_isRunAhead 4 = .ok (.invokestatic 46, 3) := by decide +kernel
theorem dX4_isRunAhead_7 : decode cX4_isRunAhead 7 = .ok (.ireturn, 1) := by decide +kernel
theorem dX4_isChoice_0 : decode cX4_isChoice 0 = .ok (.iload_n 0, 1) := by decide +kernel
theorem dX4_isChoice_1 : decode cX4_isChoice 1 = .ok (.iconst 0, 1) := by decide +kernel
theorem dX4_isChoice_2 : decode cX4_isChoice 2 = .ok (.iconst 1, 1) := by decide +kernel
theorem dX4_isChoice_3 : decode cX4_isChoice 3 = .ok (.invokestatic 46, 3) := by decide +kernel
theorem dX4_isChoice_6 : decode cX4_isChoice 6 = .ok (.ireturn, 1) := by decide +kernel
theorem dX4_isOdds_0 : decode cX4_isOdds 0 = .ok (.iload_n 0, 1) := by decide +kernel
theorem dX4_isOdds_1 : decode cX4_isOdds 1 = .ok (.iconst 0, 1) := by decide +kernel
theorem dX4_isOdds_2 : decode cX4_isOdds 2 = .ok (.bipush 10, 2) := by decide +kernel
theorem dX4_isOdds_4 : decode cX4_isOdds 4 = .ok (.invokestatic 46, 3) := by decide +kernel
theorem dX4_isOdds_7 : decode cX4_isOdds 7 = .ok (.ireturn, 1) := by decide +kernel
theorem dX4_isImage_0 : decode cX4_isImage 0 = .ok (.iload_n 0, 1) := by decide +kernel
theorem dX4_isImage_1 : decode cX4_isImage 1 = .ok (.iconst 0, 1) := by decide +kernel
theorem dX4_isImage_2 : decode cX4_isImage 2 = .ok (.iconst 1, 1) := by decide +kernel
theorem dX4_isImage_3 : decode cX4_isImage 3 = .ok (.invokestatic 46, 3) := by decide +kernel
theorem dX4_isImage_6 : decode cX4_isImage 6 = .ok (.ireturn, 1) := by decide +kernel
theorem dX4_isRider_0 : decode cX4_isRider 0 = .ok (.iload_n 1, 1) := by decide +kernel
theorem dX4_isRider_1 : decode cX4_isRider 1 = .ok (.iconst 0, 1) := by decide +kernel
theorem dX4_isRider_2 : decode cX4_isRider 2 = .ok (.aload_n 0, 1) := by decide +kernel
theorem dX4_isRider_3 : decode cX4_isRider 3 = .ok (.getfield 10, 3) := by decide +kernel
theorem dX4_isRider_6 : decode cX4_isRider 6 = .ok (.getfield 83, 3) := by decide +kernel
theorem dX4_isRider_9 : decode cX4_isRider 9 = .ok (.iconst 1, 1) := by decide +kernel
theorem dX4_isRider_10 : decode cX4_isRider 10 = .ok (.isub, 1) := by decide +kernel
theorem dX4_isRider_11 : decode cX4_isRider 11 = .ok (.invokestatic 46, 3) := by decide +kernel
theorem dX4_isRider_14 : decode cX4_isRider 14 = .ok (.ireturn, 1) := by decide +kernel
theorem dX4_exchange_0 : decode cX4_exchange 0 = .ok (.aload_n 0, 1) := by decide +kernel
theorem dX4_exchange_1 : decode cX4_exchange 1 = .ok (.iload_n 1, 1) := by decide +kernel
theorem dX4_exchange_2 : decode cX4_exchange 2 = .ok (.iaload, 1) := by decide +kernel
theorem dX4_exchange_3 : decode cX4_exchange 3 = .ok (.istore_n 3, 1) := by decide +kernel
theorem dX4_exchange_4 : decode cX4_exchange 4 = .ok (.aload_n 0, 1) := by decide +kernel
theorem dX4_exchange_5 : decode cX4_exchange 5 = .ok (.iload_n 1, 1) := by decide +kernel
theorem dX4_exchange_6 : decode cX4_exchange 6 = .ok (.iload_n 2, 1) := by decide +kernel
theorem dX4_exchange_7 : decode cX4_exchange 7 = .ok (.iastore, 1) := by decide +kernel
theorem dX4_exchange_8 : decode cX4_exchange 8 = .ok (.iload_n 3, 1) := by decide +kernel
theorem dX4_exchange_9 : decode cX4_exchange 9 = .ok (.ireturn, 1) := by decide +kernel
theorem dX4_sumOfFirst_0 : decode cX4_sumOfFirst 0 = .ok (.iconst 0, 1) := by decide +kernel
theorem dX4_sumOfFirst_1 : decode cX4_sumOfFirst 1 = .ok (.istore_n 2, 1) := by decide +kernel
theorem dX4_sumOfFirst_2 : decode cX4_sumOfFirst 2 = .ok (.iconst 0, 1) := by decide +kernel
theorem dX4_sumOfFirst_3 : decode cX4_sumOfFirst 3 = .ok (.istore_n 3, 1) := by decide +kernel
theorem dX4_sumOfFirst_4 : decode cX4_sumOfFirst 4 = .ok (.iload_n 3, 1) := by decide +kernel
theorem dX4_sumOfFirst_5 : decode cX4_sumOfFirst 5 = .ok (.iload_n 1, 1) := by decide +kernel
theorem dX4_sumOfFirst_6 : decode cX4_sumOfFirst 6 = .ok (.if_icmp .ge 21, 3) := by decide +kernel
theorem dX4_sumOfFirst_9 : decode cX4_sumOfFirst 9 = .ok (.iload_n 3, 1) := by decide +kernel
theorem dX4_sumOfFirst_10 : decode cX4_sumOfFirst 10 = .ok (.aload_n 0, 1) := by decide +kernel
theorem dX4_sumOfFirst_11 : decode cX4_sumOfFirst 11 = .ok (.arraylength, 1) := by decide +kernel
theorem dX4_sumOfFirst_12 : decode cX4_sumOfFirst 12 = .ok (.if_icmp .ge 15, 3) := by decide +kernel
theorem dX4_sumOfFirst_15 : decode cX4_sumOfFirst 15 = .ok (.iload_n 2, 1) := by decide +kernel
theorem dX4_sumOfFirst_16 : decode cX4_sumOfFirst 16 = .ok (.aload_n 0, 1) := by decide +kernel
theorem dX4_sumOfFirst_17 : decode cX4_sumOfFirst 17 = .ok (.iload_n 3, 1) := by decide +kernel
theorem dX4_sumOfFirst_18 : decode cX4_sumOfFirst 18 = .ok (.iaload, 1) := by decide +kernel
theorem dX4_sumOfFirst_19 : decode cX4_sumOfFirst 19 = .ok (.iadd, 1) := by decide +kernel
theorem dX4_sumOfFirst_20 : decode cX4_sumOfFirst 20 = .ok (.istore_n 2, 1) := by decide +kernel
theorem dX4_sumOfFirst_21 : decode cX4_sumOfFirst 21 = .ok (.iinc 3 1, 3) := by decide +kernel
theorem dX4_sumOfFirst_24 : decode cX4_sumOfFirst 24 = .ok (.goto (-20), 3) := by decide +kernel
theorem dX4_sumOfFirst_27 : decode cX4_sumOfFirst 27 = .ok (.iload_n 2, 1) := by decide +kernel
theorem dX4_sumOfFirst_28 : decode cX4_sumOfFirst 28 = .ok (.ireturn, 1) := by decide +kernel
theorem dX4_legsDown_0 : decode cX4_legsDown 0 = .ok (.iconst 4, 1) := by decide +kernel
theorem dX4_legsDown_1 : decode cX4_legsDown 1 = .ok (.iload_n 0, 1) := by decide +kernel
theorem dX4_legsDown_2 : decode cX4_legsDown 2 = .ok (.invokestatic 216, 3) := by decide +kernel
theorem dX4_legsDown_5 : decode cX4_legsDown 5 = .ok (.isub, 1) := by decide +kernel
theorem dX4_legsDown_6 : decode cX4_legsDown 6 = .ok (.ireturn, 1) := by decide +kernel
theorem dX4_reading_0 : decode cX4_reading 0 = .ok (.iconst 3, 1) := by decide +kernel
theorem dX4_reading_1 : decode cX4_reading 1 = .ok (.iload_n 1, 1) := by decide +kernel
theorem dX4_reading_2 : decode cX4_reading 2 = .ok (.invokestatic 216, 3) := by decide +kernel
theorem dX4_reading_5 : decode cX4_reading 5 = .ok (.invokestatic 195, 3) := by decide +kernel
theorem dX4_reading_8 : decode cX4_reading 8 = .ok (.istore_n 2, 1) := by decide +kernel
theorem dX4_reading_9 : decode cX4_reading 9 = .ok (.iconst 0, 1) := by decide +kernel
theorem dX4_reading_10 : decode cX4_reading 10 = .ok (.iload_n 2, 1) := by decide +kernel
theorem dX4_reading_11 : decode cX4_reading 11 = .ok (.iconst 1, 1) := by decide +kernel
theorem dX4_reading_12 : decode cX4_reading 12 = .ok (.isub, 1) := by decide +kernel
theorem dX4_reading_13 : decode cX4_reading 13 = .ok (.invokestatic 190, 3) := by decide +kernel
theorem dX4_reading_16 : decode cX4_reading 16 = .ok (.istore_n 3, 1) := by decide +kernel
theorem dX4_reading_17 : decode cX4_reading 17 = .ok (.iload_n 0, 1) := by decide +kernel
theorem dX4_reading_18 : decode cX4_reading 18 = .ok (.tableswitch 34 0 2 #[26, 28, 30], 26) := by decide +kernel
theorem dX4_reading_44 : decode cX4_reading 44 = .ok (.iload_n 2, 1) := by decide +kernel
theorem dX4_reading_45 : decode cX4_reading 45 = .ok (.ireturn, 1) := by decide +kernel
theorem dX4_reading_46 : decode cX4_reading 46 = .ok (.iload_n 3, 1) := by decide +kernel
theorem dX4_reading_47 : decode cX4_reading 47 = .ok (.ireturn, 1) := by decide +kernel
theorem dX4_reading_48 : decode cX4_reading 48 = .ok (.iconst 3, 1) := by decide +kernel
theorem dX4_reading_49 : decode cX4_reading 49 = .ok (.iload_n 2, 1) := by decide +kernel
theorem dX4_reading_50 : decode cX4_reading 50 = .ok (.isub, 1) := by decide +kernel
theorem dX4_reading_51 : decode cX4_reading 51 = .ok (.ireturn, 1) := by decide +kernel
theorem dX4_reading_52 : decode cX4_reading 52 = .ok (.iload_n 3, 1) := by decide +kernel
theorem dX4_reading_53 : decode cX4_reading 53 = .ok (.iconst 2, 1) := by decide +kernel
theorem dX4_reading_54 : decode cX4_reading 54 = .ok (.iadd, 1) := by decide +kernel
theorem dX4_reading_55 : decode cX4_reading 55 = .ok (.iconst 4, 1) := by decide +kernel
theorem dX4_reading_56 : decode cX4_reading 56 = .ok (.irem, 1) := by decide +kernel
theorem dX4_reading_57 : decode cX4_reading 57 = .ok (.ireturn, 1) := by decide +kernel
theorem dX4_image_0 : decode cX4_image 0 = .ok (.iload_n 1, 1) := by decide +kernel
theorem dX4_image_1 : decode cX4_image 1 = .ok (.ifCond .ne 10, 3) := by decide +kernel
theorem dX4_image_4 : decode cX4_image 4 = .ok (.aload_n 0, 1) := by decide +kernel
theorem dX4_image_5 : decode cX4_image 5 = .ok (.getfield 19, 3) := by decide +kernel
theorem dX4_image_8 : decode cX4_image 8 = .ok (.goto 7, 3) := by decide +kernel
theorem dX4_image_11 : decode cX4_image 11 = .ok (.aload_n 0, 1) := by decide +kernel
theorem dX4_image_12 : decode cX4_image 12 = .ok (.getfield 22, 3) := by decide +kernel
theorem dX4_image_15 : decode cX4_image 15 = .ok (.areturn, 1) := by decide +kernel
theorem dX4_sendFrom_0 : decode cX4_sendFrom 0 = .ok (.aload_n 0, 1) := by decide +kernel
theorem dX4_sendFrom_1 : decode cX4_sendFrom 1 = .ok (.aload_n 0, 1) := by decide +kernel
theorem dX4_sendFrom_2 : decode cX4_sendFrom 2 = .ok (.getfield 42, 3) := by decide +kernel
theorem dX4_sendFrom_5 : decode cX4_sendFrom 5 = .ok (.iload_n 1, 1) := by decide +kernel
theorem dX4_sendFrom_6 : decode cX4_sendFrom 6 = .ok (.iload_n 2, 1) := by decide +kernel
theorem dX4_sendFrom_7 : decode cX4_sendFrom 7 = .ok (.invokevirtual 282, 3) := by decide +kernel
theorem dX4_sendFrom_10 : decode cX4_sendFrom 10 = .ok (.aload_n 0, 1) := by decide +kernel
theorem dX4_sendFrom_11 : decode cX4_sendFrom 11 = .ok (.getfield 42, 3) := by decide +kernel
theorem dX4_sendFrom_14 : decode cX4_sendFrom 14 = .ok (.iload_n 1, 1) := by decide +kernel
theorem dX4_sendFrom_15 : decode cX4_sendFrom 15 = .ok (.iload_n 2, 1) := by decide +kernel
theorem dX4_sendFrom_16 : decode cX4_sendFrom 16 = .ok (.iconst 1, 1) := by decide +kernel
theorem dX4_sendFrom_17 : decode cX4_sendFrom 17 = .ok (.iadd, 1) := by decide +kernel
theorem dX4_sendFrom_18 : decode cX4_sendFrom 18 = .ok (.invokevirtual 282, 3) := by decide +kernel
theorem dX4_sendFrom_21 : decode cX4_sendFrom 21 = .ok (.aload_n 0, 1) := by decide +kernel
theorem dX4_sendFrom_22 : decode cX4_sendFrom 22 = .ok (.getfield 42, 3) := by decide +kernel
theorem dX4_sendFrom_25 : decode cX4_sendFrom 25 = .ok (.iload_n 1, 1) := by decide +kernel
theorem dX4_sendFrom_26 : decode cX4_sendFrom 26 = .ok (.iload_n 2, 1) := by decide +kernel
theorem dX4_sendFrom_27 : decode cX4_sendFrom 27 = .ok (.iconst 2, 1) := by decide +kernel
theorem dX4_sendFrom_28 : decode cX4_sendFrom 28 = .ok (.iadd, 1) := by decide +kernel
theorem dX4_sendFrom_29 : decode cX4_sendFrom 29 = .ok (.invokevirtual 282, 3) := by decide +kernel
theorem dX4_sendFrom_32 : decode cX4_sendFrom 32 = .ok (.aload_n 0, 1) := by decide +kernel
theorem dX4_sendFrom_33 : decode cX4_sendFrom 33 = .ok (.getfield 42, 3) := by decide +kernel
theorem dX4_sendFrom_36 : decode cX4_sendFrom 36 = .ok (.iload_n 1, 1) := by decide +kernel
theorem dX4_sendFrom_37 : decode cX4_sendFrom 37 = .ok (.iload_n 2, 1) := by decide +kernel
theorem dX4_sendFrom_38 : decode cX4_sendFrom 38 = .ok (.iconst 3, 1) := by decide +kernel
theorem dX4_sendFrom_39 : decode cX4_sendFrom 39 = .ok (.iadd, 1) := by decide +kernel
theorem dX4_sendFrom_40 : decode cX4_sendFrom 40 = .ok (.invokevirtual 282, 3) := by decide +kernel
theorem dX4_sendFrom_43 : decode cX4_sendFrom 43 = .ok (.invokevirtual 285, 3) := by decide +kernel
theorem dX4_sendFrom_46 : decode cX4_sendFrom 46 = .ok (.ireturn, 1) := by decide +kernel
theorem dX4_agreeingBehind_0 : decode cX4_agreeingBehind 0 = .ok (.aload_n 0, 1) := by decide +kernel
theorem dX4_agreeingBehind_1 : decode cX4_agreeingBehind 1 = .ok (.getfield 16, 3) := by decide +kernel
theorem dX4_agreeingBehind_4 : decode cX4_agreeingBehind 4 = .ok (.iload_n 1, 1) := by decide +kernel
theorem dX4_agreeingBehind_5 : decode cX4_agreeingBehind 5 = .ok (.invokevirtual 169, 3) := by decide +kernel
theorem dX4_agreeingBehind_8 : decode cX4_agreeingBehind 8 = .ok (.pop, 1) := by decide +kernel
theorem dX4_agreeingBehind_9 : decode cX4_agreeingBehind 9 = .ok (.aload_n 0, 1) := by decide +kernel
theorem dX4_agreeingBehind_10 : decode cX4_agreeingBehind 10 = .ok (.getfield 16, 3) := by decide +kernel
theorem dX4_agreeingBehind_13 : decode cX4_agreeingBehind 13 = .ok (.invokevirtual 98, 3) := by decide +kernel
theorem dX4_agreeingBehind_16 : decode cX4_agreeingBehind 16 = .ok (.invokestatic 216, 3) := by decide +kernel
theorem dX4_agreeingBehind_19 : decode cX4_agreeingBehind 19 = .ok (.ireturn, 1) := by decide +kernel
theorem dX4_fittingUps_0 : decode cX4_fittingUps 0 = .ok (.iconst 0, 1) := by decide +kernel
theorem dX4_fittingUps_1 : decode cX4_fittingUps 1 = .ok (.istore_n 2, 1) := by decide +kernel
theorem dX4_fittingUps_2 : decode cX4_fittingUps 2 = .ok (.iconst 0, 1) := by decide +kernel
theorem dX4_fittingUps_3 : decode cX4_fittingUps 3 = .ok (.istore_n 3, 1) := by decide +kernel
theorem dX4_fittingUps_4 : decode cX4_fittingUps 4 = .ok (.iload_n 3, 1) := by decide +kernel
theorem dX4_fittingUps_5 : decode cX4_fittingUps 5 = .ok (.bipush 16, 2) := by decide +kernel
theorem dX4_fittingUps_7 : decode cX4_fittingUps 7 = .ok (.if_icmp .ge 54, 3) := by decide +kernel
theorem dX4_fittingUps_10 : decode cX4_fittingUps 10 = .ok (.aload_n 0, 1) := by decide +kernel
theorem dX4_fittingUps_11 : decode cX4_fittingUps 11 = .ok (.getfield 16, 3) := by decide +kernel
theorem dX4_fittingUps_14 : decode cX4_fittingUps 14 = .ok (.aload_n 0, 1) := by decide +kernel
theorem dX4_fittingUps_15 : decode cX4_fittingUps 15 = .ok (.getfield 10, 3) := by decide +kernel
theorem dX4_fittingUps_18 : decode cX4_fittingUps 18 = .ok (.invokevirtual 71, 3) := by decide +kernel
theorem dX4_fittingUps_21 : decode cX4_fittingUps 21 = .ok (.aload_n 0, 1) := by decide +kernel
theorem dX4_fittingUps_22 : decode cX4_fittingUps 22 = .ok (.getfield 16, 3) := by decide +kernel
theorem dX4_fittingUps_25 : decode cX4_fittingUps 25 = .ok (.getfield 112, 3) := by decide +kernel
theorem dX4_fittingUps_28 : decode cX4_fittingUps 28 = .ok (.iload_n 1, 1) := by decide +kernel
theorem dX4_fittingUps_29 : decode cX4_fittingUps 29 = .ok (.iload_n 3, 1) := by decide +kernel
theorem dX4_fittingUps_30 : decode cX4_fittingUps 30 = .ok (.iastore, 1) := by decide +kernel
theorem dX4_fittingUps_31 : decode cX4_fittingUps 31 = .ok (.iload_n 2, 1) := by decide +kernel
theorem dX4_fittingUps_32 : decode cX4_fittingUps 32 = .ok (.aload_n 0, 1) := by decide +kernel
theorem dX4_fittingUps_33 : decode cX4_fittingUps 33 = .ok (.getfield 35, 3) := by decide +kernel
theorem dX4_fittingUps_36 : decode cX4_fittingUps 36 = .ok (.aload_n 0, 1) := by decide +kernel
theorem dX4_fittingUps_37 : decode cX4_fittingUps 37 = .ok (.getfield 16, 3) := by decide +kernel
theorem dX4_fittingUps_40 : decode cX4_fittingUps 40 = .ok (.invokevirtual 234, 3) := by decide +kernel
theorem dX4_fittingUps_43 : decode cX4_fittingUps 43 = .ok (.ifCond .eq 9, 3) := by decide +kernel
theorem dX4_fittingUps_46 : decode cX4_fittingUps 46 = .ok (.iconst 1, 1) := by decide +kernel
theorem dX4_fittingUps_47 : decode cX4_fittingUps 47 = .ok (.iload_n 3, 1) := by decide +kernel
theorem dX4_fittingUps_48 : decode cX4_fittingUps 48 = .ok (.ishl, 1) := by decide +kernel
theorem dX4_fittingUps_49 : decode cX4_fittingUps 49 = .ok (.goto 4, 3) := by decide +kernel
theorem dX4_fittingUps_52 : decode cX4_fittingUps 52 = .ok (.iconst 0, 1) := by decide +kernel
theorem dX4_fittingUps_53 : decode cX4_fittingUps 53 = .ok (.ior, 1) := by decide +kernel
theorem dX4_fittingUps_54 : decode cX4_fittingUps 54 = .ok (.istore_n 2, 1) := by decide +kernel
theorem dX4_fittingUps_55 : decode cX4_fittingUps 55 = .ok (.iinc 3 1, 3) := by decide +kernel
theorem dX4_fittingUps_58 : decode cX4_fittingUps 58 = .ok (.goto (-54), 3) := by decide +kernel
theorem dX4_fittingUps_61 : decode cX4_fittingUps 61 = .ok (.iload_n 2, 1) := by decide +kernel
theorem dX4_fittingUps_62 : decode cX4_fittingUps 62 = .ok (.ireturn, 1) := by decide +kernel
theorem dX4_clangsByOdds_0 : decode cX4_clangsByOdds 0 = .ok (.aload_n 0, 1) := by decide +kernel
theorem dX4_clangsByOdds_1 : decode cX4_clangsByOdds 1 = .ok (.getfield 10, 3) := by decide +kernel
theorem dX4_clangsByOdds_4 : decode cX4_clangsByOdds 4 = .ok (.iload_n 2, 1) := by decide +kernel
theorem dX4_clangsByOdds_5 : decode cX4_clangsByOdds 5 = .ok (.invokevirtual 209, 3) := by decide +kernel
theorem dX4_clangsByOdds_8 : decode cX4_clangsByOdds 8 = .ok (.istore 4, 2) := by decide +kernel
theorem dX4_clangsByOdds_10 : decode cX4_clangsByOdds 10 = .ok (.lconst 0, 1) := by decide +kernel
theorem dX4_clangsByOdds_11 : decode cX4_clangsByOdds 11 = .ok (.lstore 5, 2) := by decide +kernel
theorem dX4_clangsByOdds_13 : decode cX4_clangsByOdds 13 = .ok (.iconst 0, 1) := by decide +kernel
theorem dX4_clangsByOdds_14 : decode cX4_clangsByOdds 14 = .ok (.istore 7, 2) := by decide +kernel
theorem dX4_clangsByOdds_16 : decode cX4_clangsByOdds 16 = .ok (.iload 7, 2) := by decide +kernel
theorem dX4_clangsByOdds_18 : decode cX4_clangsByOdds 18 = .ok (.sipush 256, 3) := by decide +kernel
theorem dX4_clangsByOdds_21 : decode cX4_clangsByOdds 21 = .ok (.if_icmp .ge 67, 3) := by decide +kernel
theorem dX4_clangsByOdds_24 : decode cX4_clangsByOdds 24 = .ok (.iload 7, 2) := by decide +kernel
theorem dX4_clangsByOdds_26 : decode cX4_clangsByOdds 26 = .ok (.iload 4, 2) := by decide +kernel
theorem dX4_clangsByOdds_28 : decode cX4_clangsByOdds 28 = .ok (.iconst (-1), 1) := by decide +kernel
theorem dX4_clangsByOdds_29 : decode cX4_clangsByOdds 29 = .ok (.ixor, 1) := by decide +kernel
theorem dX4_clangsByOdds_30 : decode cX4_clangsByOdds 30 = .ok (.iand, 1) := by decide +kernel
theorem dX4_clangsByOdds_31 : decode cX4_clangsByOdds 31 = .ok (.ifCond .ne 51, 3) := by decide +kernel
theorem dX4_clangsByOdds_34 : decode cX4_clangsByOdds 34 = .ok (.aload_n 0, 1) := by decide +kernel
theorem dX4_clangsByOdds_35 : decode cX4_clangsByOdds 35 = .ok (.getfield 16, 3) := by decide +kernel
theorem dX4_clangsByOdds_38 : decode cX4_clangsByOdds 38 = .ok (.aload_n 0, 1) := by decide +kernel
theorem dX4_clangsByOdds_39 : decode cX4_clangsByOdds 39 = .ok (.getfield 10, 3) := by decide +kernel
theorem dX4_clangsByOdds_42 : decode cX4_clangsByOdds 42 = .ok (.invokevirtual 71, 3) := by decide +kernel
theorem dX4_clangsByOdds_45 : decode cX4_clangsByOdds 45 = .ok (.aload_n 0, 1) := by decide +kernel
theorem dX4_clangsByOdds_46 : decode cX4_clangsByOdds 46 = .ok (.getfield 16, 3) := by decide +kernel
theorem dX4_clangsByOdds_49 : decode cX4_clangsByOdds 49 = .ok (.iload 7, 2) := by decide +kernel
theorem dX4_clangsByOdds_51 : decode cX4_clangsByOdds 51 = .ok (.iload 4, 2) := by decide +kernel
theorem dX4_clangsByOdds_53 : decode cX4_clangsByOdds 53 = .ok (.iconst (-1), 1) := by decide +kernel
theorem dX4_clangsByOdds_54 : decode cX4_clangsByOdds 54 = .ok (.ixor, 1) := by decide +kernel
theorem dX4_clangsByOdds_55 : decode cX4_clangsByOdds 55 = .ok (.ior, 1) := by decide +kernel
theorem dX4_clangsByOdds_56 : decode cX4_clangsByOdds 56 = .ok (.putfield 201, 3) := by decide +kernel
theorem dX4_clangsByOdds_59 : decode cX4_clangsByOdds 59 = .ok (.lload 5, 2) := by decide +kernel
theorem dX4_clangsByOdds_61 : decode cX4_clangsByOdds 61 = .ok (.iload_n 1, 1) := by decide +kernel
theorem dX4_clangsByOdds_62 : decode cX4_clangsByOdds 62 = .ok (.iload 7, 2) := by decide +kernel
theorem dX4_clangsByOdds_64 : decode cX4_clangsByOdds 64 = .ok (.iload 4, 2) := by decide +kernel
theorem dX4_clangsByOdds_66 : decode cX4_clangsByOdds 66 = .ok (.invokestatic 212, 3) := by decide +kernel
theorem dX4_clangsByOdds_69 : decode cX4_clangsByOdds 69 = .ok (.aload_n 0, 1) := by decide +kernel
theorem dX4_clangsByOdds_70 : decode cX4_clangsByOdds 70 = .ok (.getfield 16, 3) := by decide +kernel
theorem dX4_clangsByOdds_73 : decode cX4_clangsByOdds 73 = .ok (.iload_n 3, 1) := by decide +kernel
theorem dX4_clangsByOdds_74 : decode cX4_clangsByOdds 74 = .ok (.invokevirtual 169, 3) := by decide +kernel
theorem dX4_clangsByOdds_77 : decode cX4_clangsByOdds 77 = .ok (.i2l, 1) := by decide +kernel
theorem dX4_clangsByOdds_78 : decode cX4_clangsByOdds 78 = .ok (.lmul, 1) := by decide +kernel
theorem dX4_clangsByOdds_79 : decode cX4_clangsByOdds 79 = .ok (.ladd, 1) := by decide +kernel
theorem dX4_clangsByOdds_80 : decode cX4_clangsByOdds 80 = .ok (.lstore 5, 2) := by decide +kernel
theorem dX4_clangsByOdds_82 : decode cX4_clangsByOdds 82 = .ok (.iinc 7 1, 3) := by decide +kernel
theorem dX4_clangsByOdds_85 : decode cX4_clangsByOdds 85 = .ok (.goto (-69), 3) := by decide +kernel
theorem dX4_clangsByOdds_88 : decode cX4_clangsByOdds 88 = .ok (.lload 5, 2) := by decide +kernel
theorem dX4_clangsByOdds_90 : decode cX4_clangsByOdds 90 = .ok (.lreturn, 1) := by decide +kernel
theorem dX4_oddsOf_0 : decode cX4_oddsOf 0 = .ok (.iload_n 1, 1) := by decide +kernel
theorem dX4_oddsOf_1 : decode cX4_oddsOf 1 = .ok (.invokestatic 216, 3) := by decide +kernel
theorem dX4_oddsOf_4 : decode cX4_oddsOf 4 = .ok (.istore_n 3, 1) := by decide +kernel
theorem dX4_oddsOf_5 : decode cX4_oddsOf 5 = .ok (.iload_n 0, 1) := by decide +kernel
theorem dX4_oddsOf_6 : decode cX4_oddsOf 6 = .ok (.iload_n 3, 1) := by decide +kernel
theorem dX4_oddsOf_7 : decode cX4_oddsOf 7 = .ok (.invokestatic 221, 3) := by decide +kernel
theorem dX4_oddsOf_10 : decode cX4_oddsOf 10 = .ok (.bipush 10, 2) := by decide +kernel
theorem dX4_oddsOf_12 : decode cX4_oddsOf 12 = .ok (.iload_n 0, 1) := by decide +kernel
theorem dX4_oddsOf_13 : decode cX4_oddsOf 13 = .ok (.isub, 1) := by decide +kernel
theorem dX4_oddsOf_14 : decode cX4_oddsOf 14 = .ok (.iload_n 2, 1) := by decide +kernel
theorem dX4_oddsOf_15 : decode cX4_oddsOf 15 = .ok (.invokestatic 216, 3) := by decide +kernel
theorem dX4_oddsOf_18 : decode cX4_oddsOf 18 = .ok (.iload_n 3, 1) := by decide +kernel
theorem dX4_oddsOf_19 : decode cX4_oddsOf 19 = .ok (.isub, 1) := by decide +kernel
theorem dX4_oddsOf_20 : decode cX4_oddsOf 20 = .ok (.invokestatic 221, 3) := by decide +kernel
theorem dX4_oddsOf_23 : decode cX4_oddsOf 23 = .ok (.lmul, 1) := by decide +kernel
theorem dX4_oddsOf_24 : decode cX4_oddsOf 24 = .ok (.lreturn, 1) := by decide +kernel
theorem dX4_power_0 : decode cX4_power 0 = .ok (.lconst 1, 1) := by decide +kernel
theorem dX4_power_1 : decode cX4_power 1 = .ok (.lstore_n 2, 1) := by decide +kernel
theorem dX4_power_2 : decode cX4_power 2 = .ok (.iconst 0, 1) := by decide +kernel
theorem dX4_power_3 : decode cX4_power 3 = .ok (.istore 4, 2) := by decide +kernel
theorem dX4_power_5 : decode cX4_power 5 = .ok (.iload 4, 2) := by decide +kernel
theorem dX4_power_7 : decode cX4_power 7 = .ok (.iload_n 1, 1) := by decide +kernel
theorem dX4_power_8 : decode cX4_power 8 = .ok (.if_icmp .ge 14, 3) := by decide +kernel
theorem dX4_power_11 : decode cX4_power 11 = .ok (.lload_n 2, 1) := by decide +kernel
theorem dX4_power_12 : decode cX4_power 12 = .ok (.iload_n 0, 1) := by decide +kernel
theorem dX4_power_13 : decode cX4_power 13 = .ok (.i2l, 1) := by decide +kernel
theorem dX4_power_14 : decode cX4_power 14 = .ok (.lmul, 1) := by decide +kernel
theorem dX4_power_15 : decode cX4_power 15 = .ok (.lstore_n 2, 1) := by decide +kernel
theorem dX4_power_16 : decode cX4_power 16 = .ok (.iinc 4 1, 3) := by decide +kernel
theorem dX4_power_19 : decode cX4_power 19 = .ok (.goto (-14), 3) := by decide +kernel
theorem dX4_power_22 : decode cX4_power 22 = .ok (.lload_n 2, 1) := by decide +kernel
theorem dX4_power_23 : decode cX4_power 23 = .ok (.lreturn, 1) := by decide +kernel
theorem dX4_lowestTerms_0 : decode cX4_lowestTerms 0 = .ok (.lload_n 2, 1) := by decide +kernel
theorem dX4_lowestTerms_1 : decode cX4_lowestTerms 1 = .ok (.lstore 5, 2) := by decide +kernel
theorem dX4_lowestTerms_3 : decode cX4_lowestTerms 3 = .ok (.lload_n 0, 1) := by decide +kernel
theorem dX4_lowestTerms_4 : decode cX4_lowestTerms 4 = .ok (.lstore 7, 2) := by decide +kernel
theorem dX4_lowestTerms_6 : decode cX4_lowestTerms 6 = .ok (.iconst 0, 1) := by decide +kernel
theorem dX4_lowestTerms_7 : decode cX4_lowestTerms 7 = .ok (.istore 9, 2) := by decide +kernel
theorem dX4_lowestTerms_9 : decode cX4_lowestTerms 9 = .ok (.iload 9, 2) := by decide +kernel
theorem dX4_lowestTerms_11 : decode cX4_lowestTerms 11 = .ok (.bipush 100, 2) := by decide +kernel
theorem dX4_lowestTerms_13 : decode cX4_lowestTerms 13 = .ok (.if_icmp .ge 31, 3) := by decide +kernel
theorem dX4_lowestTerms_16 : decode cX4_lowestTerms 16 = .ok (.lload 7, 2) := by decide +kernel
theorem dX4_lowestTerms_18 : decode cX4_lowestTerms 18 = .ok (.lconst 0, 1) := by decide +kernel
theorem dX4_lowestTerms_19 : decode cX4_lowestTerms 19 = .ok (.lcmp, 1) := by decide +kernel
theorem dX4_lowestTerms_20 : decode cX4_lowestTerms 20 = .ok (.ifCond .eq 24, 3) := by decide +kernel
theorem dX4_lowestTerms_23 : decode cX4_lowestTerms 23 = .ok (.lload 5, 2) := by decide +kernel
theorem dX4_lowestTerms_25 : decode cX4_lowestTerms 25 = .ok (.lload 7, 2) := by decide +kernel
theorem dX4_lowestTerms_27 : decode cX4_lowestTerms 27 = .ok (.lrem, 1) := by decide +kernel
theorem dX4_lowestTerms_28 : decode cX4_lowestTerms 28 = .ok (.lstore 10, 2) := by decide +kernel
theorem dX4_lowestTerms_30 : decode cX4_lowestTerms 30 = .ok (.lload 7, 2) := by decide +kernel
theorem dX4_lowestTerms_32 : decode cX4_lowestTerms 32 = .ok (.lstore 5, 2) := by decide +kernel
theorem dX4_lowestTerms_34 : decode cX4_lowestTerms 34 = .ok (.lload 10, 2) := by decide +kernel
theorem dX4_lowestTerms_36 : decode cX4_lowestTerms 36 = .ok (.lstore 7, 2) := by decide +kernel
theorem dX4_lowestTerms_38 : decode cX4_lowestTerms 38 = .ok (.iinc 9 1, 3) := by decide +kernel
theorem dX4_lowestTerms_41 : decode cX4_lowestTerms 41 = .ok (.goto (-32), 3) := by decide +kernel
theorem dX4_lowestTerms_44 : decode cX4_lowestTerms 44 = .ok (.iload 4, 2) := by decide +kernel
theorem dX4_lowestTerms_46 : decode cX4_lowestTerms 46 = .ok (.ifCond .ne 7, 3) := by decide +kernel
theorem dX4_lowestTerms_49 : decode cX4_lowestTerms 49 = .ok (.lload_n 0, 1) := by decide +kernel
theorem dX4_lowestTerms_50 : decode cX4_lowestTerms 50 = .ok (.goto 4, 3) := by decide +kernel
theorem dX4_lowestTerms_53 : decode cX4_lowestTerms 53 = .ok (.lload_n 2, 1) := by decide +kernel
theorem dX4_lowestTerms_54 : decode cX4_lowestTerms 54 = .ok (.lstore 9, 2) := by decide +kernel
theorem dX4_lowestTerms_56 : decode cX4_lowestTerms 56 = .ok (.lload 5, 2) := by decide +kernel
theorem dX4_lowestTerms_58 : decode cX4_lowestTerms 58 = .ok (.lconst 0, 1) := by decide +kernel
theorem dX4_lowestTerms_59 : decode cX4_lowestTerms 59 = .ok (.lcmp, 1) := by decide +kernel
theorem dX4_lowestTerms_60 : decode cX4_lowestTerms 60 = .ok (.ifCond .ne 8, 3) := by decide +kernel
theorem dX4_lowestTerms_63 : decode cX4_lowestTerms 63 = .ok (.lload 9, 2) := by decide +kernel
theorem dX4_lowestTerms_65 : decode cX4_lowestTerms 65 = .ok (.goto 8, 3) := by decide +kernel
theorem dX4_lowestTerms_68 : decode cX4_lowestTerms 68 = .ok (.lload 9, 2) := by decide +kernel
theorem dX4_lowestTerms_70 : decode cX4_lowestTerms 70 = .ok (.lload 5, 2) := by decide +kernel
theorem dX4_lowestTerms_72 : decode cX4_lowestTerms 72 = .ok (.ldiv, 1) := by decide +kernel
theorem dX4_lowestTerms_73 : decode cX4_lowestTerms 73 = .ok (.lreturn, 1) := by decide +kernel
