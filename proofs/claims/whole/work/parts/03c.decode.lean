theorem dX5_openProjectsOfText_4 : decode cX5_openProjectsOfText 4 = .ok (.iconst 0, 1) := by decide +kernel
theorem dX5_openProjectsOfText_5 : decode cX5_openProjectsOfText 5 = .ok (.istore_n 3, 1) := by decide +kernel
theorem dX5_openProjectsOfText_6 : decode cX5_openProjectsOfText 6 = .ok (.iload_n 3, 1) := by decide +kernel
theorem dX5_openProjectsOfText_7 : decode cX5_openProjectsOfText 7 = .ok (.aload_n 0, 1) := by decide +kernel
theorem dX5_openProjectsOfText_8 : decode cX5_openProjectsOfText 8 = .ok (.getfield 29, 3) := by decide +kernel
theorem dX5_openProjectsOfText_11 : decode cX5_openProjectsOfText 11 = .ok (.invokevirtual 134, 3) := by decide +kernel
theorem dX5_openProjectsOfText_14 : decode cX5_openProjectsOfText 14 = .ok (.if_icmp .gt 108, 3) := by decide +kernel
theorem dX5_openProjectsOfText_17 : decode cX5_openProjectsOfText 17 = .ok (.iload_n 3, 1) := by decide +kernel
theorem dX5_openProjectsOfText_18 : decode cX5_openProjectsOfText 18 = .ok (.aload_n 0, 1) := by decide +kernel
theorem dX5_openProjectsOfText_19 : decode cX5_openProjectsOfText 19 = .ok (.getfield 29, 3) := by decide +kernel
theorem dX5_openProjectsOfText_22 : decode cX5_openProjectsOfText 22 = .ok (.invokevirtual 134, 3) := by decide +kernel
theorem dX5_openProjectsOfText_25 : decode cX5_openProjectsOfText 25 = .ok (.if_icmp .ge 14, 3) := by decide +kernel
theorem dX5_openProjectsOfText_28 : decode cX5_openProjectsOfText 28 = .ok (.aload_n 0, 1) := by decide +kernel
theorem dX5_openProjectsOfText_29 : decode cX5_openProjectsOfText 29 = .ok (.getfield 29, 3) := by decide +kernel
theorem dX5_openProjectsOfText_32 : decode cX5_openProjectsOfText 32 = .ok (.iload_n 3, 1) := by decide +kernel
theorem dX5_openProjectsOfText_33 : decode cX5_openProjectsOfText 33 = .ok (.invokevirtual 251, 3) := by decide +kernel
theorem dX5_openProjectsOfText_36 : decode cX5_openProjectsOfText 36 = .ok (.goto 5, 3) := by decide +kernel
theorem dX5_openProjectsOfText_39 : decode cX5_openProjectsOfText 39 = .ok (.bipush 59, 2) := by decide +kernel
theorem dX5_openProjectsOfText_41 : decode cX5_openProjectsOfText 41 = .ok (.istore 4, 2) := by decide +kernel
theorem dX5_openProjectsOfText_43 : decode cX5_openProjectsOfText 43 = .ok (.iload 4, 2) := by decide +kernel
theorem dX5_openProjectsOfText_45 : decode cX5_openProjectsOfText 45 = .ok (.invokestatic 258, 3) := by decide +kernel
theorem dX5_openProjectsOfText_48 : decode cX5_openProjectsOfText 48 = .ok (.ifCond .eq 17, 3) := by decide +kernel
theorem dX5_openProjectsOfText_51 : decode cX5_openProjectsOfText 51 = .ok (.iload_n 2, 1) := by decide +kernel
theorem dX5_openProjectsOfText_52 : decode cX5_openProjectsOfText 52 = .ok (.bipush 10, 2) := by decide +kernel
theorem dX5_openProjectsOfText_54 : decode cX5_openProjectsOfText 54 = .ok (.imul, 1) := by decide +kernel
theorem dX5_openProjectsOfText_55 : decode cX5_openProjectsOfText 55 = .ok (.iload 4, 2) := by decide +kernel
theorem dX5_openProjectsOfText_57 : decode cX5_openProjectsOfText 57 = .ok (.bipush 48, 2) := by decide +kernel
theorem dX5_openProjectsOfText_59 : decode cX5_openProjectsOfText 59 = .ok (.isub, 1) := by decide +kernel
theorem dX5_openProjectsOfText_60 : decode cX5_openProjectsOfText 60 = .ok (.iadd, 1) := by decide +kernel
theorem dX5_openProjectsOfText_61 : decode cX5_openProjectsOfText 61 = .ok (.istore_n 2, 1) := by decide +kernel
theorem dX5_openProjectsOfText_62 : decode cX5_openProjectsOfText 62 = .ok (.goto 54, 3) := by decide +kernel
theorem dX5_openProjectsOfText_65 : decode cX5_openProjectsOfText 65 = .ok (.iload 4, 2) := by decide +kernel
theorem dX5_openProjectsOfText_67 : decode cX5_openProjectsOfText 67 = .ok (.bipush 58, 2) := by decide +kernel
theorem dX5_openProjectsOfText_69 : decode cX5_openProjectsOfText 69 = .ok (.if_icmp .eq 24, 3) := by decide +kernel
theorem dX5_openProjectsOfText_72 : decode cX5_openProjectsOfText 72 = .ok (.aload_n 0, 1) := by decide +kernel
theorem dX5_openProjectsOfText_73 : decode cX5_openProjectsOfText 73 = .ok (.getfield 12, 3) := by decide +kernel
theorem dX5_openProjectsOfText_76 : decode cX5_openProjectsOfText 76 = .ok (.aload_n 0, 1) := by decide +kernel
theorem dX5_openProjectsOfText_77 : decode cX5_openProjectsOfText 77 = .ok (.getfield 12, 3) := by decide +kernel
theorem dX5_openProjectsOfText_80 : decode cX5_openProjectsOfText 80 = .ok (.invokevirtual 44, 3) := by decide +kernel
theorem dX5_openProjectsOfText_83 : decode cX5_openProjectsOfText 83 = .ok (.iconst 1, 1) := by decide +kernel
theorem dX5_openProjectsOfText_84 : decode cX5_openProjectsOfText 84 = .ok (.isub, 1) := by decide +kernel
theorem dX5_openProjectsOfText_85 : decode cX5_openProjectsOfText 85 = .ok (.iload_n 2, 1) := by decide +kernel
theorem dX5_openProjectsOfText_86 : decode cX5_openProjectsOfText 86 = .ok (.invokevirtual 76, 3) := by decide +kernel
theorem dX5_openProjectsOfText_89 : decode cX5_openProjectsOfText 89 = .ok (.pop, 1) := by decide +kernel
theorem dX5_openProjectsOfText_90 : decode cX5_openProjectsOfText 90 = .ok (.goto 24, 3) := by decide +kernel
theorem dX5_openProjectsOfText_93 : decode cX5_openProjectsOfText 93 = .ok (.iload_n 1, 1) := by decide +kernel
theorem dX5_openProjectsOfText_94 : decode cX5_openProjectsOfText 94 = .ok (.ifCond .ne 8, 3) := by decide +kernel
theorem dX5_openProjectsOfText_97 : decode cX5_openProjectsOfText 97 = .ok (.iload_n 2, 1) := by decide +kernel
theorem dX5_openProjectsOfText_98 : decode cX5_openProjectsOfText 98 = .ok (.istore_n 1, 1) := by decide +kernel
theorem dX5_openProjectsOfText_99 : decode cX5_openProjectsOfText 99 = .ok (.goto 15, 3) := by decide +kernel
theorem dX5_openProjectsOfText_102 : decode cX5_openProjectsOfText 102 = .ok (.aload_n 0, 1) := by decide +kernel
theorem dX5_openProjectsOfText_103 : decode cX5_openProjectsOfText 103 = .ok (.getfield 12, 3) := by decide +kernel
theorem dX5_openProjectsOfText_106 : decode cX5_openProjectsOfText 106 = .ok (.iload_n 1, 1) := by decide +kernel
theorem dX5_openProjectsOfText_107 : decode cX5_openProjectsOfText 107 = .ok (.iload_n 2, 1) := by decide +kernel
theorem dX5_openProjectsOfText_108 : decode cX5_openProjectsOfText 108 = .ok (.invokevirtual 57, 3) := by decide +kernel
theorem dX5_openProjectsOfText_111 : decode cX5_openProjectsOfText 111 = .ok (.pop, 1) := by decide +kernel
theorem dX5_openProjectsOfText_112 : decode cX5_openProjectsOfText 112 = .ok (.iconst 0, 1) := by decide +kernel
theorem dX5_openProjectsOfText_113 : decode cX5_openProjectsOfText 113 = .ok (.istore_n 1, 1) := by decide +kernel
theorem dX5_openProjectsOfText_114 : decode cX5_openProjectsOfText 114 = .ok (.iconst 0, 1) := by decide +kernel
theorem dX5_openProjectsOfText_115 : decode cX5_openProjectsOfText 115 = .ok (.istore_n 2, 1) := by decide +kernel
theorem dX5_openProjectsOfText_116 : decode cX5_openProjectsOfText 116 = .ok (.iinc 3 1, 3) := by decide +kernel
theorem dX5_openProjectsOfText_119 : decode cX5_openProjectsOfText 119 = .ok (.goto (-113), 3) := by decide +kernel
theorem dX5_openProjectsOfText_122 : decode cX5_openProjectsOfText 122 = .ok (.return_, 1) := by decide +kernel
theorem dX5_tryNextTask_0 : decode cX5_tryNextTask 0 = .ok (.aload_n 0, 1) := by decide +kernel
theorem dX5_tryNextTask_1 : decode cX5_tryNextTask 1 = .ok (.getfield 12, 3) := by decide +kernel
theorem dX5_tryNextTask_4 : decode cX5_tryNextTask 4 = .ok (.iload_n 1, 1) := by decide +kernel
theorem dX5_tryNextTask_5 : decode cX5_tryNextTask 5 = .ok (.invokevirtual 99, 3) := by decide +kernel
theorem dX5_tryNextTask_8 : decode cX5_tryNextTask 8 = .ok (.ifCond .ne 5, 3) := by decide +kernel
theorem dX5_tryNextTask_11 : decode cX5_tryNextTask 11 = .ok (.iconst 0, 1) := by decide +kernel
theorem dX5_tryNextTask_12 : decode cX5_tryNextTask 12 = .ok (.ireturn, 1) := by decide +kernel
theorem dX5_tryNextTask_13 : decode cX5_tryNextTask 13 = .ok (.aload_n 0, 1) := by decide +kernel
theorem dX5_tryNextTask_14 : decode cX5_tryNextTask 14 = .ok (.getfield 16, 3) := by decide +kernel
theorem dX5_tryNextTask_17 : decode cX5_tryNextTask 17 = .ok (.aload_n 0, 1) := by decide +kernel
theorem dX5_tryNextTask_18 : decode cX5_tryNextTask 18 = .ok (.getfield 12, 3) := by decide +kernel
theorem dX5_tryNextTask_21 : decode cX5_tryNextTask 21 = .ok (.invokevirtual 263, 3) := by decide +kernel
theorem dX5_tryNextTask_24 : decode cX5_tryNextTask 24 = .ok (.aload_n 0, 1) := by decide +kernel
theorem dX5_tryNextTask_25 : decode cX5_tryNextTask 25 = .ok (.getfield 16, 3) := by decide +kernel
theorem dX5_tryNextTask_28 : decode cX5_tryNextTask 28 = .ok (.iload_n 1, 1) := by decide +kernel
theorem dX5_tryNextTask_29 : decode cX5_tryNextTask 29 = .ok (.iload_n 2, 1) := by decide +kernel
theorem dX5_tryNextTask_30 : decode cX5_tryNextTask 30 = .ok (.invokevirtual 104, 3) := by decide +kernel
theorem dX5_tryNextTask_33 : decode cX5_tryNextTask 33 = .ok (.pop, 1) := by decide +kernel
theorem dX5_tryNextTask_34 : decode cX5_tryNextTask 34 = .ok (.iconst 1, 1) := by decide +kernel
theorem dX5_tryNextTask_35 : decode cX5_tryNextTask 35 = .ok (.ireturn, 1) := by decide +kernel
theorem dX5_resultOfTrial_0 : decode cX5_resultOfTrial 0 = .ok (.aload_n 0, 1) := by decide +kernel
theorem dX5_resultOfTrial_1 : decode cX5_resultOfTrial 1 = .ok (.getfield 16, 3) := by decide +kernel
theorem dX5_resultOfTrial_4 : decode cX5_resultOfTrial 4 = .ok (.iload_n 1, 1) := by decide +kernel
theorem dX5_resultOfTrial_5 : decode cX5_resultOfTrial 5 = .ok (.bipush 8, 2) := by decide +kernel
theorem dX5_resultOfTrial_7 : decode cX5_resultOfTrial 7 = .ok (.invokevirtual 71, 3) := by decide +kernel
theorem dX5_resultOfTrial_10 : decode cX5_resultOfTrial 10 = .ok (.iconst 1, 1) := by decide +kernel
theorem dX5_resultOfTrial_11 : decode cX5_resultOfTrial 11 = .ok (.isub, 1) := by decide +kernel
theorem dX5_resultOfTrial_12 : decode cX5_resultOfTrial 12 = .ok (.istore_n 3, 1) := by decide +kernel
theorem dX5_resultOfTrial_13 : decode cX5_resultOfTrial 13 = .ok (.iload_n 2, 1) := by decide +kernel
theorem dX5_resultOfTrial_14 : decode cX5_resultOfTrial 14 = .ok (.tableswitch 73 0 3 #[30, 41, 52, 63], 30) := by decide +kernel
theorem dX5_resultOfTrial_44 : decode cX5_resultOfTrial 44 = .ok (.aload_n 0, 1) := by decide +kernel
theorem dX5_resultOfTrial_45 : decode cX5_resultOfTrial 45 = .ok (.getfield 16, 3) := by decide +kernel
theorem dX5_resultOfTrial_48 : decode cX5_resultOfTrial 48 = .ok (.iload_n 1, 1) := by decide +kernel
theorem dX5_resultOfTrial_49 : decode cX5_resultOfTrial 49 = .ok (.iload_n 3, 1) := by decide +kernel
theorem dX5_resultOfTrial_50 : decode cX5_resultOfTrial 50 = .ok (.iconst 5, 1) := by decide +kernel
theorem dX5_resultOfTrial_51 : decode cX5_resultOfTrial 51 = .ok (.invokevirtual 175, 3) := by decide +kernel
theorem dX5_resultOfTrial_54 : decode cX5_resultOfTrial 54 = .ok (.ireturn, 1) := by decide +kernel
theorem dX5_resultOfTrial_55 : decode cX5_resultOfTrial 55 = .ok (.aload_n 0, 1) := by decide +kernel
theorem dX5_resultOfTrial_56 : decode cX5_resultOfTrial 56 = .ok (.getfield 16, 3) := by decide +kernel
theorem dX5_resultOfTrial_59 : decode cX5_resultOfTrial 59 = .ok (.iload_n 1, 1) := by decide +kernel
theorem dX5_resultOfTrial_60 : decode cX5_resultOfTrial 60 = .ok (.iload_n 3, 1) := by decide +kernel
theorem dX5_resultOfTrial_61 : decode cX5_resultOfTrial 61 = .ok (.iconst 4, 1) := by decide +kernel
theorem dX5_resultOfTrial_62 : decode cX5_resultOfTrial 62 = .ok (.invokevirtual 175, 3) := by decide +kernel
theorem dX5_resultOfTrial_65 : decode cX5_resultOfTrial 65 = .ok (.ireturn, 1) := by decide +kernel
theorem dX5_resultOfTrial_66 : decode cX5_resultOfTrial 66 = .ok (.aload_n 0, 1) := by decide +kernel
theorem dX5_resultOfTrial_67 : decode cX5_resultOfTrial 67 = .ok (.getfield 16, 3) := by decide +kernel
theorem dX5_resultOfTrial_70 : decode cX5_resultOfTrial 70 = .ok (.iload_n 1, 1) := by decide +kernel
theorem dX5_resultOfTrial_71 : decode cX5_resultOfTrial 71 = .ok (.iload_n 3, 1) := by decide +kernel
theorem dX5_resultOfTrial_72 : decode cX5_resultOfTrial 72 = .ok (.iconst 3, 1) := by decide +kernel
theorem dX5_resultOfTrial_73 : decode cX5_resultOfTrial 73 = .ok (.invokevirtual 175, 3) := by decide +kernel
theorem dX5_resultOfTrial_76 : decode cX5_resultOfTrial 76 = .ok (.ireturn, 1) := by decide +kernel
theorem dX5_resultOfTrial_77 : decode cX5_resultOfTrial 77 = .ok (.aload_n 0, 1) := by decide +kernel
theorem dX5_resultOfTrial_78 : decode cX5_resultOfTrial 78 = .ok (.getfield 16, 3) := by decide +kernel
theorem dX5_resultOfTrial_81 : decode cX5_resultOfTrial 81 = .ok (.iload_n 1, 1) := by decide +kernel
theorem dX5_resultOfTrial_82 : decode cX5_resultOfTrial 82 = .ok (.iconst 2, 1) := by decide +kernel
theorem dX5_resultOfTrial_83 : decode cX5_resultOfTrial 83 = .ok (.invokevirtual 71, 3) := by decide +kernel
theorem dX5_resultOfTrial_86 : decode cX5_resultOfTrial 86 = .ok (.ireturn, 1) := by decide +kernel
theorem dX5_resultOfTrial_87 : decode cX5_resultOfTrial 87 = .ok (.aload_n 0, 1) := by decide +kernel
theorem dX5_resultOfTrial_88 : decode cX5_resultOfTrial 88 = .ok (.getfield 16, 3) := by decide +kernel
theorem dX5_resultOfTrial_91 : decode cX5_resultOfTrial 91 = .ok (.iload_n 1, 1) := by decide +kernel
theorem dX5_resultOfTrial_92 : decode cX5_resultOfTrial 92 = .ok (.iconst 4, 1) := by decide +kernel
theorem dX5_resultOfTrial_93 : decode cX5_resultOfTrial 93 = .ok (.invokevirtual 71, 3) := by decide +kernel
theorem dX5_resultOfTrial_96 : decode cX5_resultOfTrial 96 = .ok (.ireturn, 1) := by decide +kernel
theorem dX5_bestRuleFor_0 : decode cX5_bestRuleFor 0 = .ok (.aload_n 0, 1) := by decide +kernel
theorem dX5_bestRuleFor_1 : decode cX5_bestRuleFor 1 = .ok (.getfield 12, 3) := by decide +kernel
theorem dX5_bestRuleFor_4 : decode cX5_bestRuleFor 4 = .ok (.iload_n 1, 1) := by decide +kernel
theorem dX5_bestRuleFor_5 : decode cX5_bestRuleFor 5 = .ok (.invokevirtual 99, 3) := by decide +kernel
theorem dX5_bestRuleFor_8 : decode cX5_bestRuleFor 8 = .ok (.ifCond .ne 5, 3) := by decide +kernel
theorem dX5_bestRuleFor_11 : decode cX5_bestRuleFor 11 = .ok (.iconst (-1), 1) := by decide +kernel
theorem dX5_bestRuleFor_12 : decode cX5_bestRuleFor 12 = .ok (.ireturn, 1) := by decide +kernel
theorem dX5_bestRuleFor_13 : decode cX5_bestRuleFor 13 = .ok (.iconst (-1), 1) := by decide +kernel
theorem dX5_bestRuleFor_14 : decode cX5_bestRuleFor 14 = .ok (.istore_n 3, 1) := by decide +kernel
theorem dX5_bestRuleFor_15 : decode cX5_bestRuleFor 15 = .ok (.iconst (-1), 1) := by decide +kernel
theorem dX5_bestRuleFor_16 : decode cX5_bestRuleFor 16 = .ok (.istore 4, 2) := by decide +kernel
theorem dX5_bestRuleFor_18 : decode cX5_bestRuleFor 18 = .ok (.iconst 0, 1) := by decide +kernel
theorem dX5_bestRuleFor_19 : decode cX5_bestRuleFor 19 = .ok (.istore 5, 2) := by decide +kernel
theorem dX5_bestRuleFor_21 : decode cX5_bestRuleFor 21 = .ok (.iload 5, 2) := by decide +kernel
theorem dX5_bestRuleFor_23 : decode cX5_bestRuleFor 23 = .ok (.iconst 0, 1) := by decide +kernel
theorem dX5_bestRuleFor_24 : decode cX5_bestRuleFor 24 = .ok (.invokestatic 87, 3) := by decide +kernel
theorem dX5_bestRuleFor_27 : decode cX5_bestRuleFor 27 = .ok (.if_icmp .gt 64, 3) := by decide +kernel
theorem dX5_bestRuleFor_30 : decode cX5_bestRuleFor 30 = .ok (.aload_n 0, 1) := by decide +kernel
theorem dX5_bestRuleFor_31 : decode cX5_bestRuleFor 31 = .ok (.getfield 16, 3) := by decide +kernel
theorem dX5_bestRuleFor_34 : decode cX5_bestRuleFor 34 = .ok (.aload_n 0, 1) := by decide +kernel
theorem dX5_bestRuleFor_35 : decode cX5_bestRuleFor 35 = .ok (.getfield 12, 3) := by decide +kernel
theorem dX5_bestRuleFor_38 : decode cX5_bestRuleFor 38 = .ok (.invokevirtual 263, 3) := by decide +kernel
theorem dX5_bestRuleFor_41 : decode cX5_bestRuleFor 41 = .ok (.aload_n 0, 1) := by decide +kernel
theorem dX5_bestRuleFor_42 : decode cX5_bestRuleFor 42 = .ok (.getfield 16, 3) := by decide +kernel
theorem dX5_bestRuleFor_45 : decode cX5_bestRuleFor 45 = .ok (.iconst 0, 1) := by decide +kernel
theorem dX5_bestRuleFor_46 : decode cX5_bestRuleFor 46 = .ok (.iload 5, 2) := by decide +kernel
theorem dX5_bestRuleFor_48 : decode cX5_bestRuleFor 48 = .ok (.invokevirtual 93, 3) := by decide +kernel
theorem dX5_bestRuleFor_51 : decode cX5_bestRuleFor 51 = .ok (.pop, 1) := by decide +kernel
theorem dX5_bestRuleFor_52 : decode cX5_bestRuleFor 52 = .ok (.aload_n 0, 1) := by decide +kernel
theorem dX5_bestRuleFor_53 : decode cX5_bestRuleFor 53 = .ok (.getfield 16, 3) := by decide +kernel
theorem dX5_bestRuleFor_56 : decode cX5_bestRuleFor 56 = .ok (.iload_n 1, 1) := by decide +kernel
theorem dX5_bestRuleFor_57 : decode cX5_bestRuleFor 57 = .ok (.iload_n 2, 1) := by decide +kernel
theorem dX5_bestRuleFor_58 : decode cX5_bestRuleFor 58 = .ok (.invokevirtual 104, 3) := by decide +kernel
theorem dX5_bestRuleFor_61 : decode cX5_bestRuleFor 61 = .ok (.pop, 1) := by decide +kernel
theorem dX5_bestRuleFor_62 : decode cX5_bestRuleFor 62 = .ok (.aload_n 0, 1) := by decide +kernel
theorem dX5_bestRuleFor_63 : decode cX5_bestRuleFor 63 = .ok (.getfield 16, 3) := by decide +kernel
theorem dX5_bestRuleFor_66 : decode cX5_bestRuleFor 66 = .ok (.invokevirtual 266, 3) := by decide +kernel
theorem dX5_bestRuleFor_69 : decode cX5_bestRuleFor 69 = .ok (.istore 6, 2) := by decide +kernel
theorem dX5_bestRuleFor_71 : decode cX5_bestRuleFor 71 = .ok (.iload 6, 2) := by decide +kernel
theorem dX5_bestRuleFor_73 : decode cX5_bestRuleFor 73 = .ok (.iload 4, 2) := by decide +kernel
theorem dX5_bestRuleFor_75 : decode cX5_bestRuleFor 75 = .ok (.if_icmp .le 10, 3) := by decide +kernel
theorem dX5_bestRuleFor_78 : decode cX5_bestRuleFor 78 = .ok (.iload 6, 2) := by decide +kernel
theorem dX5_bestRuleFor_80 : decode cX5_bestRuleFor 80 = .ok (.istore 4, 2) := by decide +kernel
theorem dX5_bestRuleFor_82 : decode cX5_bestRuleFor 82 = .ok (.iload 5, 2) := by decide +kernel
theorem dX5_bestRuleFor_84 : decode cX5_bestRuleFor 84 = .ok (.istore_n 3, 1) := by decide +kernel
theorem dX5_bestRuleFor_85 : decode cX5_bestRuleFor 85 = .ok (.iinc 5 1, 3) := by decide +kernel
theorem dX5_bestRuleFor_88 : decode cX5_bestRuleFor 88 = .ok (.goto (-67), 3) := by decide +kernel
theorem dX5_bestRuleFor_91 : decode cX5_bestRuleFor 91 = .ok (.iload_n 3, 1) := by decide +kernel
theorem dX5_bestRuleFor_92 : decode cX5_bestRuleFor 92 = .ok (.ireturn, 1) := by decide +kernel
theorem dX5_mix_0 : decode cX5_mix 0 = .ok (.ldc2_w 269, 3) := by decide +kernel
theorem dX5_mix_3 : decode cX5_mix 3 = .ok (.lload_n 0, 1) := by decide +kernel
theorem dX5_mix_4 : decode cX5_mix 4 = .ok (.lmul, 1) := by decide +kernel
theorem dX5_mix_5 : decode cX5_mix 5 = .ok (.lload_n 2, 1) := by decide +kernel
theorem dX5_mix_6 : decode cX5_mix 6 = .ok (.ladd, 1) := by decide +kernel
theorem dX5_mix_7 : decode cX5_mix 7 = .ok (.lreturn, 1) := by decide +kernel
theorem dX5_mixWhatIs_0 : decode cX5_mixWhatIs 0 = .ok (.lload_n 1, 1) := by decide +kernel
theorem dX5_mixWhatIs_1 : decode cX5_mixWhatIs 1 = .ok (.lstore 4, 2) := by decide +kernel
theorem dX5_mixWhatIs_3 : decode cX5_mixWhatIs 3 = .ok (.iconst 0, 1) := by decide +kernel
theorem dX5_mixWhatIs_4 : decode cX5_mixWhatIs 4 = .ok (.istore 6, 2) := by decide +kernel
theorem dX5_mixWhatIs_6 : decode cX5_mixWhatIs 6 = .ok (.iload 6, 2) := by decide +kernel
theorem dX5_mixWhatIs_8 : decode cX5_mixWhatIs 8 = .ok (.bipush 14, 2) := by decide +kernel
theorem dX5_mixWhatIs_10 : decode cX5_mixWhatIs 10 = .ok (.if_icmp .gt 27, 3) := by decide +kernel
theorem dX5_mixWhatIs_13 : decode cX5_mixWhatIs 13 = .ok (.lload 4, 2) := by decide +kernel
theorem dX5_mixWhatIs_15 : decode cX5_mixWhatIs 15 = .ok (.aload_n 0, 1) := by decide +kernel
theorem dX5_mixWhatIs_16 : decode cX5_mixWhatIs 16 = .ok (.getfield 12, 3) := by decide +kernel
theorem dX5_mixWhatIs_19 : decode cX5_mixWhatIs 19 = .ok (.iload_n 3, 1) := by decide +kernel
theorem dX5_mixWhatIs_20 : decode cX5_mixWhatIs 20 = .ok (.iload 6, 2) := by decide +kernel
theorem dX5_mixWhatIs_22 : decode cX5_mixWhatIs 22 = .ok (.invokevirtual 71, 3) := by decide +kernel
theorem dX5_mixWhatIs_25 : decode cX5_mixWhatIs 25 = .ok (.i2l, 1) := by decide +kernel
theorem dX5_mixWhatIs_26 : decode cX5_mixWhatIs 26 = .ok (.invokestatic 228, 3) := by decide +kernel
theorem dX5_mixWhatIs_29 : decode cX5_mixWhatIs 29 = .ok (.lstore 4, 2) := by decide +kernel
theorem dX5_mixWhatIs_31 : decode cX5_mixWhatIs 31 = .ok (.iinc 6 1, 3) := by decide +kernel
theorem dX5_mixWhatIs_34 : decode cX5_mixWhatIs 34 = .ok (.goto (-28), 3) := by decide +kernel
theorem dX5_mixWhatIs_37 : decode cX5_mixWhatIs 37 = .ok (.iconst 0, 1) := by decide +kernel
theorem dX5_mixWhatIs_38 : decode cX5_mixWhatIs 38 = .ok (.istore 6, 2) := by decide +kernel
theorem dX5_mixWhatIs_40 : decode cX5_mixWhatIs 40 = .ok (.iload 6, 2) := by decide +kernel
theorem dX5_mixWhatIs_42 : decode cX5_mixWhatIs 42 = .ok (.aload_n 0, 1) := by decide +kernel
theorem dX5_mixWhatIs_43 : decode cX5_mixWhatIs 43 = .ok (.getfield 12, 3) := by decide +kernel
theorem dX5_mixWhatIs_46 : decode cX5_mixWhatIs 46 = .ok (.iload_n 3, 1) := by decide +kernel
theorem dX5_mixWhatIs_47 : decode cX5_mixWhatIs 47 = .ok (.bipush 7, 2) := by decide +kernel
theorem dX5_mixWhatIs_49 : decode cX5_mixWhatIs 49 = .ok (.invokevirtual 71, 3) := by decide +kernel
theorem dX5_mixWhatIs_52 : decode cX5_mixWhatIs 52 = .ok (.if_icmp .ge 44, 3) := by decide +kernel
theorem dX5_mixWhatIs_55 : decode cX5_mixWhatIs 55 = .ok (.iconst 0, 1) := by decide +kernel
theorem dX5_mixWhatIs_56 : decode cX5_mixWhatIs 56 = .ok (.istore 7, 2) := by decide +kernel
theorem dX5_mixWhatIs_58 : decode cX5_mixWhatIs 58 = .ok (.iload 7, 2) := by decide +kernel
theorem dX5_mixWhatIs_60 : decode cX5_mixWhatIs 60 = .ok (.iconst 5, 1) := by decide +kernel
theorem dX5_mixWhatIs_61 : decode cX5_mixWhatIs 61 = .ok (.if_icmp .gt 29, 3) := by decide +kernel
theorem dX5_mixWhatIs_64 : decode cX5_mixWhatIs 64 = .ok (.lload 4, 2) := by decide +kernel
theorem dX5_mixWhatIs_66 : decode cX5_mixWhatIs 66 = .ok (.aload_n 0, 1) := by decide +kernel
theorem dX5_mixWhatIs_67 : decode cX5_mixWhatIs 67 = .ok (.getfield 12, 3) := by decide +kernel
theorem dX5_mixWhatIs_70 : decode cX5_mixWhatIs 70 = .ok (.iload_n 3, 1) := by decide +kernel
theorem dX5_mixWhatIs_71 : decode cX5_mixWhatIs 71 = .ok (.iload 6, 2) := by decide +kernel
theorem dX5_mixWhatIs_73 : decode cX5_mixWhatIs 73 = .ok (.iload 7, 2) := by decide +kernel
theorem dX5_mixWhatIs_75 : decode cX5_mixWhatIs 75 = .ok (.invokevirtual 175, 3) := by decide +kernel
theorem dX5_mixWhatIs_78 : decode cX5_mixWhatIs 78 = .ok (.i2l, 1) := by decide +kernel
theorem dX5_mixWhatIs_79 : decode cX5_mixWhatIs 79 = .ok (.invokestatic 228, 3) := by decide +kernel
theorem dX5_mixWhatIs_82 : decode cX5_mixWhatIs 82 = .ok (.lstore 4, 2) := by decide +kernel
theorem dX5_mixWhatIs_84 : decode cX5_mixWhatIs 84 = .ok (.iinc 7 1, 3) := by decide +kernel
theorem dX5_mixWhatIs_87 : decode cX5_mixWhatIs 87 = .ok (.goto (-29), 3) := by decide +kernel
theorem dX5_mixWhatIs_90 : decode cX5_mixWhatIs 90 = .ok (.iinc 6 1, 3) := by decide +kernel
theorem dX5_mixWhatIs_93 : decode cX5_mixWhatIs 93 = .ok (.goto (-53), 3) := by decide +kernel
theorem dX5_mixWhatIs_96 : decode cX5_mixWhatIs 96 = .ok (.iconst 0, 1) := by decide +kernel
theorem dX5_mixWhatIs_97 : decode cX5_mixWhatIs 97 = .ok (.istore 6, 2) := by decide +kernel
theorem dX5_mixWhatIs_99 : decode cX5_mixWhatIs 99 = .ok (.iload 6, 2) := by decide +kernel
theorem dX5_mixWhatIs_101 : decode cX5_mixWhatIs 101 = .ok (.iconst 3, 1) := by decide +kernel
theorem dX5_mixWhatIs_102 : decode cX5_mixWhatIs 102 = .ok (.if_icmp .ge 27, 3) := by decide +kernel
theorem dX5_mixWhatIs_105 : decode cX5_mixWhatIs 105 = .ok (.lload 4, 2) := by decide +kernel
theorem dX5_mixWhatIs_107 : decode cX5_mixWhatIs 107 = .ok (.aload_n 0, 1) := by decide +kernel
theorem dX5_mixWhatIs_108 : decode cX5_mixWhatIs 108 = .ok (.getfield 12, 3) := by decide +kernel
theorem dX5_mixWhatIs_111 : decode cX5_mixWhatIs 111 = .ok (.iload_n 3, 1) := by decide +kernel
theorem dX5_mixWhatIs_112 : decode cX5_mixWhatIs 112 = .ok (.iload 6, 2) := by decide +kernel
theorem dX5_mixWhatIs_114 : decode cX5_mixWhatIs 114 = .ok (.invokevirtual 191, 3) := by decide +kernel
theorem dX5_mixWhatIs_117 : decode cX5_mixWhatIs 117 = .ok (.i2l, 1) := by decide +kernel
theorem dX5_mixWhatIs_118 : decode cX5_mixWhatIs 118 = .ok (.invokestatic 228, 3) := by decide +kernel
theorem dX5_mixWhatIs_121 : decode cX5_mixWhatIs 121 = .ok (.lstore 4, 2) := by decide +kernel
theorem dX5_mixWhatIs_123 : decode cX5_mixWhatIs 123 = .ok (.iinc 6 1, 3) := by decide +kernel
theorem dX5_mixWhatIs_126 : decode cX5_mixWhatIs 126 = .ok (.goto (-27), 3) := by decide +kernel
theorem dX5_mixWhatIs_129 : decode cX5_mixWhatIs 129 = .ok (.lload 4, 2) := by decide +kernel
theorem dX5_mixWhatIs_131 : decode cX5_mixWhatIs 131 = .ok (.lreturn, 1) := by decide +kernel
theorem dX5_mixWhatWouldBe_0 : decode cX5_mixWhatWouldBe 0 = .ok (.lload_n 1, 1) := by decide +kernel
theorem dX5_mixWhatWouldBe_1 : decode cX5_mixWhatWouldBe 1 = .ok (.aload_n 0, 1) := by decide +kernel
theorem dX5_mixWhatWouldBe_2 : decode cX5_mixWhatWouldBe 2 = .ok (.getfield 12, 3) := by decide +kernel
theorem dX5_mixWhatWouldBe_5 : decode cX5_mixWhatWouldBe 5 = .ok (.iload_n 3, 1) := by decide +kernel
theorem dX5_mixWhatWouldBe_6 : decode cX5_mixWhatWouldBe 6 = .ok (.invokevirtual 211, 3) := by decide +kernel
theorem dX5_mixWhatWouldBe_9 : decode cX5_mixWhatWouldBe 9 = .ok (.i2l, 1) := by decide +kernel
theorem dX5_mixWhatWouldBe_10 : decode cX5_mixWhatWouldBe 10 = .ok (.invokestatic 228, 3) := by decide +kernel
theorem dX5_mixWhatWouldBe_13 : decode cX5_mixWhatWouldBe 13 = .ok (.lstore 4, 2) := by decide +kernel
theorem dX5_mixWhatWouldBe_15 : decode cX5_mixWhatWouldBe 15 = .ok (.aload_n 0, 1) := by decide +kernel
theorem dX5_mixWhatWouldBe_16 : decode cX5_mixWhatWouldBe 16 = .ok (.iload_n 3, 1) := by decide +kernel
theorem dX5_mixWhatWouldBe_17 : decode cX5_mixWhatWouldBe 17 = .ok (.bipush 60, 2) := by decide +kernel
theorem dX5_mixWhatWouldBe_19 : decode cX5_mixWhatWouldBe 19 = .ok (.invokevirtual 204, 3) := by decide +kernel
theorem dX5_mixWhatWouldBe_22 : decode cX5_mixWhatWouldBe 22 = .ok (.istore 6, 2) := by decide +kernel
theorem dX5_mixWhatWouldBe_24 : decode cX5_mixWhatWouldBe 24 = .ok (.iconst 0, 1) := by decide +kernel
theorem dX5_mixWhatWouldBe_25 : decode cX5_mixWhatWouldBe 25 = .ok (.istore 7, 2) := by decide +kernel
theorem dX5_mixWhatWouldBe_27 : decode cX5_mixWhatWouldBe 27 = .ok (.iload 7, 2) := by decide +kernel
theorem dX5_mixWhatWouldBe_29 : decode cX5_mixWhatWouldBe 29 = .ok (.iconst 4, 1) := by decide +kernel
theorem dX5_mixWhatWouldBe_30 : decode cX5_mixWhatWouldBe 30 = .ok (.if_icmp .gt 35, 3) := by decide +kernel
theorem dX5_mixWhatWouldBe_33 : decode cX5_mixWhatWouldBe 33 = .ok (.lload 4, 2) := by decide +kernel
theorem dX5_mixWhatWouldBe_35 : decode cX5_mixWhatWouldBe 35 = .ok (.iload 6, 2) := by decide +kernel
theorem dX5_mixWhatWouldBe_37 : decode cX5_mixWhatWouldBe 37 = .ok (.ifCond .eq 14, 3) := by decide +kernel
theorem dX5_mixWhatWouldBe_40 : decode cX5_mixWhatWouldBe 40 = .ok (.aload_n 0, 1) := by decide +kernel
theorem dX5_mixWhatWouldBe_41 : decode cX5_mixWhatWouldBe 41 = .ok (.iload_n 3, 1) := by decide +kernel
theorem dX5_mixWhatWouldBe_42 : decode cX5_mixWhatWouldBe 42 = .ok (.iload 7, 2) := by decide +kernel
theorem dX5_mixWhatWouldBe_44 : decode cX5_mixWhatWouldBe 44 = .ok (.invokevirtual 208, 3) := by decide +kernel
theorem dX5_mixWhatWouldBe_47 : decode cX5_mixWhatWouldBe 47 = .ok (.i2l, 1) := by decide +kernel
theorem dX5_mixWhatWouldBe_48 : decode cX5_mixWhatWouldBe 48 = .ok (.goto 6, 3) := by decide +kernel
theorem dX5_mixWhatWouldBe_51 : decode cX5_mixWhatWouldBe 51 = .ok (.ldc2_w 271, 3) := by decide +kernel
theorem dX5_mixWhatWouldBe_54 : decode cX5_mixWhatWouldBe 54 = .ok (.invokestatic 228, 3) := by decide +kernel
theorem dX5_mixWhatWouldBe_57 : decode cX5_mixWhatWouldBe 57 = .ok (.lstore 4, 2) := by decide +kernel
theorem dX5_mixWhatWouldBe_59 : decode cX5_mixWhatWouldBe 59 = .ok (.iinc 7 1, 3) := by decide +kernel
theorem dX5_mixWhatWouldBe_62 : decode cX5_mixWhatWouldBe 62 = .ok (.goto (-35), 3) := by decide +kernel
theorem dX5_mixWhatWouldBe_65 : decode cX5_mixWhatWouldBe 65 = .ok (.lload 4, 2) := by decide +kernel
theorem dX5_mixWhatWouldBe_67 : decode cX5_mixWhatWouldBe 67 = .ok (.aload_n 0, 1) := by decide +kernel
theorem dX5_mixWhatWouldBe_68 : decode cX5_mixWhatWouldBe 68 = .ok (.iload_n 3, 1) := by decide +kernel
theorem dX5_mixWhatWouldBe_69 : decode cX5_mixWhatWouldBe 69 = .ok (.bipush 60, 2) := by decide +kernel
theorem dX5_mixWhatWouldBe_71 : decode cX5_mixWhatWouldBe 71 = .ok (.invokevirtual 217, 3) := by decide +kernel
theorem dX5_mixWhatWouldBe_74 : decode cX5_mixWhatWouldBe 74 = .ok (.i2l, 1) := by decide +kernel
theorem dX5_mixWhatWouldBe_75 : decode cX5_mixWhatWouldBe 75 = .ok (.invokestatic 228, 3) := by decide +kernel
theorem dX5_mixWhatWouldBe_78 : decode cX5_mixWhatWouldBe 78 = .ok (.lstore 4, 2) := by decide +kernel
theorem dX5_mixWhatWouldBe_80 : decode cX5_mixWhatWouldBe 80 = .ok (.iconst 0, 1) := by decide +kernel
theorem dX5_mixWhatWouldBe_81 : decode cX5_mixWhatWouldBe 81 = .ok (.istore 7, 2) := by decide +kernel
theorem dX5_mixWhatWouldBe_83 : decode cX5_mixWhatWouldBe 83 = .ok (.iload 7, 2) := by decide +kernel
theorem dX5_mixWhatWouldBe_85 : decode cX5_mixWhatWouldBe 85 = .ok (.aload_n 0, 1) := by decide +kernel
theorem dX5_mixWhatWouldBe_86 : decode cX5_mixWhatWouldBe 86 = .ok (.getfield 12, 3) := by decide +kernel
theorem dX5_mixWhatWouldBe_89 : decode cX5_mixWhatWouldBe 89 = .ok (.invokevirtual 44, 3) := by decide +kernel
theorem dX5_mixWhatWouldBe_92 : decode cX5_mixWhatWouldBe 92 = .ok (.if_icmp .ge 27, 3) := by decide +kernel
theorem dX5_mixWhatWouldBe_95 : decode cX5_mixWhatWouldBe 95 = .ok (.lload 4, 2) := by decide +kernel
theorem dX5_mixWhatWouldBe_97 : decode cX5_mixWhatWouldBe 97 = .ok (.aload_n 0, 1) := by decide +kernel
theorem dX5_mixWhatWouldBe_98 : decode cX5_mixWhatWouldBe 98 = .ok (.getfield 12, 3) := by decide +kernel
theorem dX5_mixWhatWouldBe_101 : decode cX5_mixWhatWouldBe 101 = .ok (.iload_n 3, 1) := by decide +kernel
theorem dX5_mixWhatWouldBe_102 : decode cX5_mixWhatWouldBe 102 = .ok (.iload 7, 2) := by decide +kernel
theorem dX5_mixWhatWouldBe_104 : decode cX5_mixWhatWouldBe 104 = .ok (.invokevirtual 115, 3) := by decide +kernel
theorem dX5_mixWhatWouldBe_107 : decode cX5_mixWhatWouldBe 107 = .ok (.i2l, 1) := by decide +kernel
theorem dX5_mixWhatWouldBe_108 : decode cX5_mixWhatWouldBe 108 = .ok (.invokestatic 228, 3) := by decide +kernel
theorem dX5_mixWhatWouldBe_111 : decode cX5_mixWhatWouldBe 111 = .ok (.lstore 4, 2) := by decide +kernel
theorem dX5_mixWhatWouldBe_113 : decode cX5_mixWhatWouldBe 113 = .ok (.iinc 7 1, 3) := by decide +kernel
theorem dX5_mixWhatWouldBe_116 : decode cX5_mixWhatWouldBe 116 = .ok (.goto (-33), 3) := by decide +kernel
theorem dX5_mixWhatWouldBe_119 : decode cX5_mixWhatWouldBe 119 = .ok (.lload 4, 2) := by decide +kernel
theorem dX5_mixWhatWouldBe_121 : decode cX5_mixWhatWouldBe 121 = .ok (.lreturn, 1) := by decide +kernel
theorem dX5_bitsOfShare_0 : decode cX5_bitsOfShare 0 = .ok (.dload_n 0, 1) := by decide +kernel
theorem dX5_bitsOfShare_1 : decode cX5_bitsOfShare 1 = .ok (.dconst 0, 1) := by decide +kernel
theorem dX5_bitsOfShare_2 : decode cX5_bitsOfShare 2 = .ok (.dcmp .g, 1) := by decide +kernel
theorem dX5_bitsOfShare_3 : decode cX5_bitsOfShare 3 = .ok (.ifCond .gt 5, 3) := by decide +kernel
theorem dX5_bitsOfShare_6 : decode cX5_bitsOfShare 6 = .ok (.lconst 0, 1) := by decide +kernel
theorem dX5_bitsOfShare_7 : decode cX5_bitsOfShare 7 = .ok (.lreturn, 1) := by decide +kernel
theorem dX5_bitsOfShare_8 : decode cX5_bitsOfShare 8 = .ok (.dload_n 0, 1) := by decide +kernel
theorem dX5_bitsOfShare_9 : decode cX5_bitsOfShare 9 = .ok (.dstore_n 2, 1) := by decide +kernel
theorem dX5_bitsOfShare_10 : decode cX5_bitsOfShare 10 = .ok (.ldc2_w 273, 3) := by decide +kernel
theorem dX5_bitsOfShare_13 : decode cX5_bitsOfShare 13 = .ok (.lstore 4, 2) := by decide +kernel
theorem dX5_bitsOfShare_15 : decode cX5_bitsOfShare 15 = .ok (.iconst 0, 1) := by decide +kernel
theorem dX5_bitsOfShare_16 : decode cX5_bitsOfShare 16 = .ok (.istore 6, 2) := by decide +kernel
theorem dX5_bitsOfShare_18 : decode cX5_bitsOfShare 18 = .ok (.iload 6, 2) := by decide +kernel
theorem dX5_bitsOfShare_20 : decode cX5_bitsOfShare 20 = .ok (.sipush 1022, 3) := by decide +kernel
theorem dX5_bitsOfShare_23 : decode cX5_bitsOfShare 23 = .ok (.if_icmp .ge 27, 3) := by decide +kernel
theorem dX5_bitsOfShare_26 : decode cX5_bitsOfShare 26 = .ok (.dload_n 2, 1) := by decide +kernel
theorem dX5_bitsOfShare_27 : decode cX5_bitsOfShare 27 = .ok (.dconst 1, 1) := by decide +kernel
theorem dX5_bitsOfShare_28 : decode cX5_bitsOfShare 28 = .ok (.dcmp .g, 1) := by decide +kernel
theorem dX5_bitsOfShare_29 : decode cX5_bitsOfShare 29 = .ok (.ifCond .ge 21, 3) := by decide +kernel
theorem dX5_bitsOfShare_32 : decode cX5_bitsOfShare 32 = .ok (.dload_n 2, 1) := by decide +kernel
theorem dX5_bitsOfShare_33 : decode cX5_bitsOfShare 33 = .ok (.ldc2_w 275, 3) := by decide +kernel
theorem dX5_bitsOfShare_36 : decode cX5_bitsOfShare 36 = .ok (.dmul, 1) := by decide +kernel
theorem dX5_bitsOfShare_37 : decode cX5_bitsOfShare 37 = .ok (.dstore_n 2, 1) := by decide +kernel
theorem dX5_bitsOfShare_38 : decode cX5_bitsOfShare 38 = .ok (.lload 4, 2) := by decide +kernel
theorem dX5_bitsOfShare_40 : decode cX5_bitsOfShare 40 = .ok (.lconst 1, 1) := by decide +kernel
theorem dX5_bitsOfShare_41 : decode cX5_bitsOfShare 41 = .ok (.lsub, 1) := by decide +kernel
theorem dX5_bitsOfShare_42 : decode cX5_bitsOfShare 42 = .ok (.lstore 4, 2) := by decide +kernel
theorem dX5_bitsOfShare_44 : decode cX5_bitsOfShare 44 = .ok (.iinc 6 1, 3) := by decide +kernel
theorem dX5_bitsOfShare_47 : decode cX5_bitsOfShare 47 = .ok (.goto (-29), 3) := by decide +kernel
theorem dX5_bitsOfShare_50 : decode cX5_bitsOfShare 50 = .ok (.dload_n 2, 1) := by decide +kernel
theorem dX5_bitsOfShare_51 : decode cX5_bitsOfShare 51 = .ok (.dconst 1, 1) := by decide +kernel
theorem dX5_bitsOfShare_52 : decode cX5_bitsOfShare 52 = .ok (.dsub, 1) := by decide +kernel
theorem dX5_bitsOfShare_53 : decode cX5_bitsOfShare 53 = .ok (.ldc2_w 277, 3) := by decide +kernel
theorem dX5_bitsOfShare_56 : decode cX5_bitsOfShare 56 = .ok (.dmul, 1) := by decide +kernel
theorem dX5_bitsOfShare_57 : decode cX5_bitsOfShare 57 = .ok (.d2l, 1) := by decide +kernel
theorem dX5_bitsOfShare_58 : decode cX5_bitsOfShare 58 = .ok (.lstore 6, 2) := by decide +kernel
theorem dX5_bitsOfShare_60 : decode cX5_bitsOfShare 60 = .ok (.lload 4, 2) := by decide +kernel
theorem dX5_bitsOfShare_62 : decode cX5_bitsOfShare 62 = .ok (.bipush 52, 2) := by decide +kernel
theorem dX5_bitsOfShare_64 : decode cX5_bitsOfShare 64 = .ok (.lshl, 1) := by decide +kernel
theorem dX5_bitsOfShare_65 : decode cX5_bitsOfShare 65 = .ok (.lload 6, 2) := by decide +kernel
theorem dX5_bitsOfShare_67 : decode cX5_bitsOfShare 67 = .ok (.lor, 1) := by decide +kernel
theorem dX5_bitsOfShare_68 : decode cX5_bitsOfShare 68 = .ok (.lreturn, 1) := by decide +kernel
theorem dX6_init_0 : decode cX6_init 0 = .ok (.aload_n 0, 1) := by decide +kernel
theorem dX6_init_1 : decode cX6_init 1 = .ok (.invokespecial 1, 3) := by decide +kernel
theorem dX6_init_4 : decode cX6_init 4 = .ok (.aload_n 0, 1) := by decide +kernel
theorem dX6_init_5 : decode cX6_init 5 = .ok (.sipush 444, 3) := by decide +kernel
theorem dX6_init_8 : decode cX6_init 8 = .ok (.newarray .int, 2) := by decide +kernel
theorem dX6_init_10 : decode cX6_init 10 = .ok (.putfield 7, 3) := by decide +kernel
theorem dX6_init_13 : decode cX6_init 13 = .ok (.aload_n 0, 1) := by decide +kernel
theorem dX6_init_14 : decode cX6_init 14 = .ok (.sipush 2664, 3) := by decide +kernel
theorem dX6_init_17 : decode cX6_init 17 = .ok (.newarray .int, 2) := by decide +kernel
theorem dX6_init_19 : decode cX6_init 19 = .ok (.putfield 13, 3) := by decide +kernel
theorem dX6_init_22 : decode cX6_init 22 = .ok (.aload_n 0, 1) := by decide +kernel
theorem dX6_init_23 : decode cX6_init 23 = .ok (.sipush 444, 3) := by decide +kernel
theorem dX6_init_26 : decode cX6_init 26 = .ok (.newarray .int, 2) := by decide +kernel
theorem dX6_init_28 : decode cX6_init 28 = .ok (.putfield 16, 3) := by decide +kernel
theorem dX6_init_31 : decode cX6_init 31 = .ok (.aload_n 0, 1) := by decide +kernel
theorem dX6_init_32 : decode cX6_init 32 = .ok (.bipush 60, 2) := by decide +kernel
theorem dX6_init_34 : decode cX6_init 34 = .ok (.newarray .int, 2) := by decide +kernel
theorem dX6_init_36 : decode cX6_init 36 = .ok (.putfield 19, 3) := by decide +kernel
theorem dX6_init_39 : decode cX6_init 39 = .ok (.aload_n 0, 1) := by decide +kernel
theorem dX6_init_40 : decode cX6_init 40 = .ok (.bipush 6, 2) := by decide +kernel
theorem dX6_init_42 : decode cX6_init 42 = .ok (.newarray .int, 2) := by decide +kernel
theorem dX6_init_44 : decode cX6_init 44 = .ok (.putfield 22, 3) := by decide +kernel
theorem dX6_init_47 : decode cX6_init 47 = .ok (.aload_n 0, 1) := by decide +kernel
theorem dX6_init_48 : decode cX6_init 48 = .ok (.bipush 110, 2) := by decide +kernel
theorem dX6_init_50 : decode cX6_init 50 = .ok (.newarray .int, 2) := by decide +kernel
theorem dX6_init_52 : decode cX6_init 52 = .ok (.putfield 25, 3) := by decide +kernel
theorem dX6_init_55 : decode cX6_init 55 = .ok (.aload_n 0, 1) := by decide +kernel
theorem dX6_init_56 : decode cX6_init 56 = .ok (.getfield 7, 3) := by decide +kernel
theorem dX6_init_59 : decode cX6_init 59 = .ok (.iconst 4, 1) := by decide +kernel
theorem dX6_init_60 : decode cX6_init 60 = .ok (.bipush 30, 2) := by decide +kernel
theorem dX6_init_62 : decode cX6_init 62 = .ok (.iastore, 1) := by decide +kernel
theorem dX6_init_63 : decode cX6_init 63 = .ok (.aload_n 0, 1) := by decide +kernel
theorem dX6_init_64 : decode cX6_init 64 = .ok (.getfield 7, 3) := by decide +kernel
theorem dX6_init_67 : decode cX6_init 67 = .ok (.iconst 5, 1) := by decide +kernel
theorem dX6_init_68 : decode cX6_init 68 = .ok (.bipush 50, 2) := by decide +kernel
theorem dX6_init_70 : decode cX6_init 70 = .ok (.iastore, 1) := by decide +kernel
theorem dX6_init_71 : decode cX6_init 71 = .ok (.return_, 1) := by decide +kernel
theorem dX6_thrown_0 : decode cX6_thrown 0 = .ok (.aload_n 0, 1) := by decide +kernel
theorem dX6_thrown_1 : decode cX6_thrown 1 = .ok (.getfield 28, 3) := by decide +kernel
theorem dX6_thrown_4 : decode cX6_thrown 4 = .ok (.ireturn, 1) := by decide +kernel
theorem dX6_fails_0 : decode cX6_fails 0 = .ok (.aload_n 0, 1) := by decide +kernel
theorem dX6_fails_1 : decode cX6_fails 1 = .ok (.iload_n 1, 1) := by decide +kernel
theorem dX6_fails_2 : decode cX6_fails 2 = .ok (.putfield 28, 3) := by decide +kernel
theorem dX6_fails_5 : decode cX6_fails 5 = .ok (.iconst 0, 1) := by decide +kernel
theorem dX6_fails_6 : decode cX6_fails 6 = .ok (.ireturn, 1) := by decide +kernel
theorem dX6_in_0 : decode cX6_in 0 = .ok (.iload_n 0, 1) := by decide +kernel
theorem dX6_in_1 : decode cX6_in 1 = .ok (.iload_n 1, 1) := by decide +kernel
theorem dX6_in_2 : decode cX6_in 2 = .ok (.if_icmp .lt 12, 3) := by decide +kernel
theorem dX6_in_5 : decode cX6_in 5 = .ok (.iload_n 0, 1) := by decide +kernel
theorem dX6_in_6 : decode cX6_in 6 = .ok (.iload_n 2, 1) := by decide +kernel
theorem dX6_in_7 : decode cX6_in 7 = .ok (.if_icmp .gt 7, 3) := by decide +kernel
theorem dX6_in_10 : decode cX6_in 10 = .ok (.iconst 1, 1) := by decide +kernel
theorem dX6_in_11 : decode cX6_in 11 = .ok (.goto 4, 3) := by decide +kernel
theorem dX6_in_14 : decode cX6_in 14 = .ok (.iconst 0, 1) := by decide +kernel
theorem dX6_in_15 : decode cX6_in 15 = .ok (.ireturn, 1) := by decide +kernel
theorem dX6_least_0 : decode cX6_least 0 = .ok (.iload_n 0, 1) := by decide +kernel
theorem dX6_least_1 : decode cX6_least 1 = .ok (.iload_n 1, 1) := by decide +kernel
theorem dX6_least_2 : decode cX6_least 2 = .ok (.if_icmp .ge 7, 3) := by decide +kernel
theorem dX6_least_5 : decode cX6_least 5 = .ok (.iload_n 0, 1) := by decide +kernel
theorem dX6_least_6 : decode cX6_least 6 = .ok (.goto 4, 3) := by decide +kernel
theorem dX6_least_9 : decode cX6_least 9 = .ok (.iload_n 1, 1) := by decide +kernel
theorem dX6_least_10 : decode cX6_least 10 = .ok (.ireturn, 1) := by decide +kernel
theorem dX6_save_0 : decode cX6_save 0 = .ok (.aload_n 0, 1) := by decide +kernel
theorem dX6_save_1 : decode cX6_save 1 = .ok (.getfield 32, 3) := by decide +kernel
theorem dX6_save_4 : decode cX6_save 4 = .ok (.bipush 6, 2) := by decide +kernel
theorem dX6_save_6 : decode cX6_save 6 = .ok (.if_icmp .ne 44, 3) := by decide +kernel
theorem dX6_save_9 : decode cX6_save 9 = .ok (.iconst 0, 1) := by decide +kernel
theorem dX6_save_10 : decode cX6_save 10 = .ok (.istore_n 1, 1) := by decide +kernel
theorem dX6_save_11 : decode cX6_save 11 = .ok (.iload_n 1, 1) := by decide +kernel
theorem dX6_save_12 : decode cX6_save 12 = .ok (.sipush 2220, 3) := by decide +kernel
theorem dX6_save_15 : decode cX6_save 15 = .ok (.if_icmp .ge 25, 3) := by decide +kernel
theorem dX6_save_18 : decode cX6_save 18 = .ok (.aload_n 0, 1) := by decide +kernel
theorem dX6_save_19 : decode cX6_save 19 = .ok (.getfield 13, 3) := by decide +kernel
theorem dX6_save_22 : decode cX6_save 22 = .ok (.iload_n 1, 1) := by decide +kernel
theorem dX6_save_23 : decode cX6_save 23 = .ok (.aload_n 0, 1) := by decide +kernel
theorem dX6_save_24 : decode cX6_save 24 = .ok (.getfield 13, 3) := by decide +kernel
theorem dX6_save_27 : decode cX6_save 27 = .ok (.iload_n 1, 1) := by decide +kernel
theorem dX6_save_28 : decode cX6_save 28 = .ok (.sipush 444, 3) := by decide +kernel
theorem dX6_save_31 : decode cX6_save 31 = .ok (.iadd, 1) := by decide +kernel
theorem dX6_save_32 : decode cX6_save 32 = .ok (.iaload, 1) := by decide +kernel
theorem dX6_save_33 : decode cX6_save 33 = .ok (.iastore, 1) := by decide +kernel
theorem dX6_save_34 : decode cX6_save 34 = .ok (.iinc 1 1, 3) := by decide +kernel
theorem dX6_save_37 : decode cX6_save 37 = .ok (.goto (-26), 3) := by decide +kernel
theorem dX6_save_40 : decode cX6_save 40 = .ok (.aload_n 0, 1) := by decide +kernel
theorem dX6_save_41 : decode cX6_save 41 = .ok (.dup, 1) := by decide +kernel
theorem dX6_save_42 : decode cX6_save 42 = .ok (.getfield 32, 3) := by decide +kernel
theorem dX6_save_45 : decode cX6_save 45 = .ok (.iconst 1, 1) := by decide +kernel
theorem dX6_save_46 : decode cX6_save 46 = .ok (.isub, 1) := by decide +kernel
theorem dX6_save_47 : decode cX6_save 47 = .ok (.putfield 32, 3) := by decide +kernel
theorem dX6_save_50 : decode cX6_save 50 = .ok (.iconst 0, 1) := by decide +kernel
theorem dX6_save_51 : decode cX6_save 51 = .ok (.istore_n 1, 1) := by decide +kernel
theorem dX6_save_52 : decode cX6_save 52 = .ok (.iload_n 1, 1) := by decide +kernel
theorem dX6_save_53 : decode cX6_save 53 = .ok (.sipush 444, 3) := by decide +kernel
theorem dX6_save_56 : decode cX6_save 56 = .ok (.if_icmp .ge 30, 3) := by decide +kernel
theorem dX6_save_59 : decode cX6_save 59 = .ok (.aload_n 0, 1) := by decide +kernel
theorem dX6_save_60 : decode cX6_save 60 = .ok (.getfield 13, 3) := by decide +kernel
theorem dX6_save_63 : decode cX6_save 63 = .ok (.sipush 444, 3) := by decide +kernel
theorem dX6_save_66 : decode cX6_save 66 = .ok (.aload_n 0, 1) := by decide +kernel
theorem dX6_save_67 : decode cX6_save 67 = .ok (.getfield 32, 3) := by decide +kernel
theorem dX6_save_70 : decode cX6_save 70 = .ok (.imul, 1) := by decide +kernel
theorem dX6_save_71 : decode cX6_save 71 = .ok (.iload_n 1, 1) := by decide +kernel
theorem dX6_save_72 : decode cX6_save 72 = .ok (.iadd, 1) := by decide +kernel
theorem dX6_save_73 : decode cX6_save 73 = .ok (.aload_n 0, 1) := by decide +kernel
theorem dX6_save_74 : decode cX6_save 74 = .ok (.getfield 7, 3) := by decide +kernel
theorem dX6_save_77 : decode cX6_save 77 = .ok (.iload_n 1, 1) := by decide +kernel
theorem dX6_save_78 : decode cX6_save 78 = .ok (.iaload, 1) := by decide +kernel
theorem dX6_save_79 : decode cX6_save 79 = .ok (.iastore, 1) := by decide +kernel
theorem dX6_save_80 : decode cX6_save 80 = .ok (.iinc 1 1, 3) := by decide +kernel
theorem dX6_save_83 : decode cX6_save 83 = .ok (.goto (-31), 3) := by decide +kernel
theorem dX6_save_86 : decode cX6_save 86 = .ok (.aload_n 0, 1) := by decide +kernel
theorem dX6_save_87 : decode cX6_save 87 = .ok (.dup, 1) := by decide +kernel
theorem dX6_save_88 : decode cX6_save 88 = .ok (.getfield 32, 3) := by decide +kernel
theorem dX6_save_91 : decode cX6_save 91 = .ok (.iconst 1, 1) := by decide +kernel
theorem dX6_save_92 : decode cX6_save 92 = .ok (.iadd, 1) := by decide +kernel
theorem dX6_save_93 : decode cX6_save 93 = .ok (.putfield 32, 3) := by decide +kernel
theorem dX6_save_96 : decode cX6_save 96 = .ok (.return_, 1) := by decide +kernel
theorem dX6_putAside_0 : decode cX6_putAside 0 = .ok (.iconst 0, 1) := by decide +kernel
theorem dX6_putAside_1 : decode cX6_putAside 1 = .ok (.istore_n 1, 1) := by decide +kernel
theorem dX6_putAside_2 : decode cX6_putAside 2 = .ok (.iload_n 1, 1) := by decide +kernel
theorem dX6_putAside_3 : decode cX6_putAside 3 = .ok (.sipush 444, 3) := by decide +kernel
theorem dX6_putAside_6 : decode cX6_putAside 6 = .ok (.if_icmp .ge 21, 3) := by decide +kernel
theorem dX6_putAside_9 : decode cX6_putAside 9 = .ok (.aload_n 0, 1) := by decide +kernel
theorem dX6_putAside_10 : decode cX6_putAside 10 = .ok (.getfield 16, 3) := by decide +kernel
theorem dX6_putAside_13 : decode cX6_putAside 13 = .ok (.iload_n 1, 1) := by decide +kernel
theorem dX6_putAside_14 : decode cX6_putAside 14 = .ok (.aload_n 0, 1) := by decide +kernel
theorem dX6_putAside_15 : decode cX6_putAside 15 = .ok (.getfield 7, 3) := by decide +kernel
theorem dX6_putAside_18 : decode cX6_putAside 18 = .ok (.iload_n 1, 1) := by decide +kernel
theorem dX6_putAside_19 : decode cX6_putAside 19 = .ok (.iaload, 1) := by decide +kernel
theorem dX6_putAside_20 : decode cX6_putAside 20 = .ok (.iastore, 1) := by decide +kernel
theorem dX6_putAside_21 : decode cX6_putAside 21 = .ok (.iinc 1 1, 3) := by decide +kernel
theorem dX6_putAside_24 : decode cX6_putAside 24 = .ok (.goto (-22), 3) := by decide +kernel
theorem dX6_putAside_27 : decode cX6_putAside 27 = .ok (.return_, 1) := by decide +kernel
theorem dX6_putBack_0 : decode cX6_putBack 0 = .ok (.iconst 0, 1) := by decide +kernel
theorem dX6_putBack_1 : decode cX6_putBack 1 = .ok (.istore_n 1, 1) := by decide +kernel
theorem dX6_putBack_2 : decode cX6_putBack 2 = .ok (.iload_n 1, 1) := by decide +kernel
theorem dX6_putBack_3 : decode cX6_putBack 3 = .ok (.sipush 444, 3) := by decide +kernel
theorem dX6_putBack_6 : decode cX6_putBack 6 = .ok (.if_icmp .ge 21, 3) := by decide +kernel
theorem dX6_putBack_9 : decode cX6_putBack 9 = .ok (.aload_n 0, 1) := by decide +kernel
theorem dX6_putBack_10 : decode cX6_putBack 10 = .ok (.getfield 7, 3) := by decide +kernel
theorem dX6_putBack_13 : decode cX6_putBack 13 = .ok (.iload_n 1, 1) := by decide +kernel
theorem dX6_putBack_14 : decode cX6_putBack 14 = .ok (.aload_n 0, 1) := by decide +kernel
theorem dX6_putBack_15 : decode cX6_putBack 15 = .ok (.getfield 16, 3) := by decide +kernel
theorem dX6_putBack_18 : decode cX6_putBack 18 = .ok (.iload_n 1, 1) := by decide +kernel
theorem dX6_putBack_19 : decode cX6_putBack 19 = .ok (.iaload, 1) := by decide +kernel
theorem dX6_putBack_20 : decode cX6_putBack 20 = .ok (.iastore, 1) := by decide +kernel
theorem dX6_putBack_21 : decode cX6_putBack 21 = .ok (.iinc 1 1, 3) := by decide +kernel
theorem dX6_putBack_24 : decode cX6_putBack 24 = .ok (.goto (-22), 3) := by decide +kernel
theorem dX6_putBack_27 : decode cX6_putBack 27 = .ok (.return_, 1) := by decide +kernel
theorem dX6_at_0 : decode cX6_at 0 = .ok (.bipush 6, 2) := by decide +kernel
theorem dX6_at_2 : decode cX6_at 2 = .ok (.bipush 58, 2) := by decide +kernel
theorem dX6_at_4 : decode cX6_at 4 = .ok (.iload_n 0, 1) := by decide +kernel
theorem dX6_at_5 : decode cX6_at 5 = .ok (.imul, 1) := by decide +kernel
theorem dX6_at_6 : decode cX6_at 6 = .ok (.iadd, 1) := by decide +kernel
theorem dX6_at_7 : decode cX6_at 7 = .ok (.ireturn, 1) := by decide +kernel
theorem dX6_loanAt_0 : decode cX6_loanAt 0 = .ok (.sipush 354, 3) := by decide +kernel
theorem dX6_loanAt_3 : decode cX6_loanAt 3 = .ok (.iconst 3, 1) := by decide +kernel
theorem dX6_loanAt_4 : decode cX6_loanAt 4 = .ok (.iload_n 0, 1) := by decide +kernel
theorem dX6_loanAt_5 : decode cX6_loanAt 5 = .ok (.imul, 1) := by decide +kernel
theorem dX6_loanAt_6 : decode cX6_loanAt 6 = .ok (.iadd, 1) := by decide +kernel
theorem dX6_loanAt_7 : decode cX6_loanAt 7 = .ok (.ireturn, 1) := by decide +kernel
theorem dX6_isProject_0 : decode cX6_isProject 0 = .ok (.iload_n 1, 1) := by decide +kernel
theorem dX6_isProject_1 : decode cX6_isProject 1 = .ok (.iconst 0, 1) := by decide +kernel
theorem dX6_isProject_2 : decode cX6_isProject 2 = .ok (.aload_n 0, 1) := by decide +kernel
theorem dX6_isProject_3 : decode cX6_isProject 3 = .ok (.getfield 7, 3) := by decide +kernel
theorem dX6_isProject_6 : decode cX6_isProject 6 = .ok (.iconst 0, 1) := by decide +kernel
theorem dX6_isProject_7 : decode cX6_isProject 7 = .ok (.iaload, 1) := by decide +kernel
theorem dX6_isProject_8 : decode cX6_isProject 8 = .ok (.iconst 1, 1) := by decide +kernel
theorem dX6_isProject_9 : decode cX6_isProject 9 = .ok (.isub, 1) := by decide +kernel
theorem dX6_isProject_10 : decode cX6_isProject 10 = .ok (.invokestatic 35, 3) := by decide +kernel
theorem dX6_isProject_13 : decode cX6_isProject 13 = .ok (.ireturn, 1) := by decide +kernel
theorem dX6_isOpen_0 : decode cX6_isOpen 0 = .ok (.aload_n 0, 1) := by decide +kernel
theorem dX6_isOpen_1 : decode cX6_isOpen 1 = .ok (.getfield 7, 3) := by decide +kernel
theorem dX6_isOpen_4 : decode cX6_isOpen 4 = .ok (.iload_n 1, 1) := by decide +kernel
theorem dX6_isOpen_5 : decode cX6_isOpen 5 = .ok (.invokestatic 39, 3) := by decide +kernel
theorem dX6_isOpen_8 : decode cX6_isOpen 8 = .ok (.bipush 7, 2) := by decide +kernel
theorem dX6_isOpen_10 : decode cX6_isOpen 10 = .ok (.iadd, 1) := by decide +kernel
theorem dX6_isOpen_11 : decode cX6_isOpen 11 = .ok (.iaload, 1) := by decide +kernel
theorem dX6_isOpen_12 : decode cX6_isOpen 12 = .ok (.iconst 1, 1) := by decide +kernel
theorem dX6_isOpen_13 : decode cX6_isOpen 13 = .ok (.if_icmp .ne 7, 3) := by decide +kernel
theorem dX6_isOpen_16 : decode cX6_isOpen 16 = .ok (.iconst 1, 1) := by decide +kernel
theorem dX6_isOpen_17 : decode cX6_isOpen 17 = .ok (.goto 4, 3) := by decide +kernel
theorem dX6_isOpen_20 : decode cX6_isOpen 20 = .ok (.iconst 0, 1) := by decide +kernel
theorem dX6_isOpen_21 : decode cX6_isOpen 21 = .ok (.ireturn, 1) := by decide +kernel
theorem dX6_hasNext_0 : decode cX6_hasNext 0 = .ok (.aload_n 0, 1) := by decide +kernel
theorem dX6_hasNext_1 : decode cX6_hasNext 1 = .ok (.getfield 7, 3) := by decide +kernel
theorem dX6_hasNext_4 : decode cX6_hasNext 4 = .ok (.iload_n 1, 1) := by decide +kernel
theorem dX6_hasNext_5 : decode cX6_hasNext 5 = .ok (.invokestatic 39, 3) := by decide +kernel
theorem dX6_hasNext_8 : decode cX6_hasNext 8 = .ok (.bipush 6, 2) := by decide +kernel
theorem dX6_hasNext_10 : decode cX6_hasNext 10 = .ok (.iadd, 1) := by decide +kernel
theorem dX6_hasNext_11 : decode cX6_hasNext 11 = .ok (.iaload, 1) := by decide +kernel
theorem dX6_hasNext_12 : decode cX6_hasNext 12 = .ok (.aload_n 0, 1) := by decide +kernel
theorem dX6_hasNext_13 : decode cX6_hasNext 13 = .ok (.getfield 7, 3) := by decide +kernel
theorem dX6_hasNext_16 : decode cX6_hasNext 16 = .ok (.iload_n 1, 1) := by decide +kernel
theorem dX6_hasNext_17 : decode cX6_hasNext 17 = .ok (.invokestatic 39, 3) := by decide +kernel
theorem dX6_hasNext_20 : decode cX6_hasNext 20 = .ok (.iconst 5, 1) := by decide +kernel
theorem dX6_hasNext_21 : decode cX6_hasNext 21 = .ok (.iadd, 1) := by decide +kernel
theorem dX6_hasNext_22 : decode cX6_hasNext 22 = .ok (.iaload, 1) := by decide +kernel
theorem dX6_hasNext_23 : decode cX6_hasNext 23 = .ok (.if_icmp .ge 7, 3) := by decide +kernel
theorem dX6_hasNext_26 : decode cX6_hasNext 26 = .ok (.iconst 1, 1) := by decide +kernel
theorem dX6_hasNext_27 : decode cX6_hasNext 27 = .ok (.goto 4, 3) := by decide +kernel
theorem dX6_hasNext_30 : decode cX6_hasNext 30 = .ok (.iconst 0, 1) := by decide +kernel
theorem dX6_hasNext_31 : decode cX6_hasNext 31 = .ok (.ireturn, 1) := by decide +kernel
theorem dX6_mayDo_0 : decode cX6_mayDo 0 = .ok (.aload_n 0, 1) := by decide +kernel
theorem dX6_mayDo_1 : decode cX6_mayDo 1 = .ok (.iload_n 1, 1) := by decide +kernel
theorem dX6_mayDo_2 : decode cX6_mayDo 2 = .ok (.invokevirtual 43, 3) := by decide +kernel
theorem dX6_mayDo_5 : decode cX6_mayDo 5 = .ok (.ifCond .eq 15, 3) := by decide +kernel
theorem dX6_mayDo_8 : decode cX6_mayDo 8 = .ok (.aload_n 0, 1) := by decide +kernel
theorem dX6_mayDo_9 : decode cX6_mayDo 9 = .ok (.iload_n 1, 1) := by decide +kernel
theorem dX6_mayDo_10 : decode cX6_mayDo 10 = .ok (.invokevirtual 47, 3) := by decide +kernel
theorem dX6_mayDo_13 : decode cX6_mayDo 13 = .ok (.ifCond .eq 7, 3) := by decide +kernel
theorem dX6_mayDo_16 : decode cX6_mayDo 16 = .ok (.iconst 1, 1) := by decide +kernel
theorem dX6_mayDo_17 : decode cX6_mayDo 17 = .ok (.goto 4, 3) := by decide +kernel
theorem dX6_mayDo_20 : decode cX6_mayDo 20 = .ok (.iconst 0, 1) := by decide +kernel
theorem dX6_mayDo_21 : decode cX6_mayDo 21 = .ok (.ireturn, 1) := by decide +kernel
theorem dX6_placeOf_0 : decode cX6_placeOf 0 = .ok (.iconst 0, 1) := by decide +kernel
theorem dX6_placeOf_1 : decode cX6_placeOf 1 = .ok (.istore_n 3, 1) := by decide +kernel
theorem dX6_placeOf_2 : decode cX6_placeOf 2 = .ok (.iload_n 3, 1) := by decide +kernel
theorem dX6_placeOf_3 : decode cX6_placeOf 3 = .ok (.aload_n 0, 1) := by decide +kernel
theorem dX6_placeOf_4 : decode cX6_placeOf 4 = .ok (.getfield 7, 3) := by decide +kernel
theorem dX6_placeOf_7 : decode cX6_placeOf 7 = .ok (.iconst 1, 1) := by decide +kernel
theorem dX6_placeOf_8 : decode cX6_placeOf 8 = .ok (.iaload, 1) := by decide +kernel
theorem dX6_placeOf_9 : decode cX6_placeOf 9 = .ok (.if_icmp .ge 39, 3) := by decide +kernel
theorem dX6_placeOf_12 : decode cX6_placeOf 12 = .ok (.aload_n 0, 1) := by decide +kernel
theorem dX6_placeOf_13 : decode cX6_placeOf 13 = .ok (.getfield 7, 3) := by decide +kernel
theorem dX6_placeOf_16 : decode cX6_placeOf 16 = .ok (.iload_n 3, 1) := by decide +kernel
theorem dX6_placeOf_17 : decode cX6_placeOf 17 = .ok (.invokestatic 50, 3) := by decide +kernel
theorem dX6_placeOf_20 : decode cX6_placeOf 20 = .ok (.iaload, 1) := by decide +kernel
theorem dX6_placeOf_21 : decode cX6_placeOf 21 = .ok (.iload_n 1, 1) := by decide +kernel
theorem dX6_placeOf_22 : decode cX6_placeOf 22 = .ok (.if_icmp .ne 20, 3) := by decide +kernel
theorem dX6_placeOf_25 : decode cX6_placeOf 25 = .ok (.aload_n 0, 1) := by decide +kernel
theorem dX6_placeOf_26 : decode cX6_placeOf 26 = .ok (.getfield 7, 3) := by decide +kernel
theorem dX6_placeOf_29 : decode cX6_placeOf 29 = .ok (.iload_n 3, 1) := by decide +kernel
theorem dX6_placeOf_30 : decode cX6_placeOf 30 = .ok (.invokestatic 50, 3) := by decide +kernel
theorem dX6_placeOf_33 : decode cX6_placeOf 33 = .ok (.iconst 1, 1) := by decide +kernel
theorem dX6_placeOf_34 : decode cX6_placeOf 34 = .ok (.iadd, 1) := by decide +kernel
theorem dX6_placeOf_35 : decode cX6_placeOf 35 = .ok (.iaload, 1) := by decide +kernel
theorem dX6_placeOf_36 : decode cX6_placeOf 36 = .ok (.iload_n 2, 1) := by decide +kernel
theorem dX6_placeOf_37 : decode cX6_placeOf 37 = .ok (.if_icmp .ne 5, 3) := by decide +kernel
theorem dX6_placeOf_40 : decode cX6_placeOf 40 = .ok (.iload_n 3, 1) := by decide +kernel
theorem dX6_placeOf_41 : decode cX6_placeOf 41 = .ok (.ireturn, 1) := by decide +kernel
theorem dX6_placeOf_42 : decode cX6_placeOf 42 = .ok (.iinc 3 1, 3) := by decide +kernel
theorem dX6_placeOf_45 : decode cX6_placeOf 45 = .ok (.goto (-43), 3) := by decide +kernel
theorem dX6_placeOf_48 : decode cX6_placeOf 48 = .ok (.iconst (-1), 1) := by decide +kernel
theorem dX6_placeOf_49 : decode cX6_placeOf 49 = .ok (.ireturn, 1) := by decide +kernel
theorem dX6_owedOf_0 : decode cX6_owedOf 0 = .ok (.aload_n 0, 1) := by decide +kernel
theorem dX6_owedOf_1 : decode cX6_owedOf 1 = .ok (.iload_n 2, 1) := by decide +kernel
theorem dX6_owedOf_2 : decode cX6_owedOf 2 = .ok (.iload_n 1, 1) := by decide +kernel
theorem dX6_owedOf_3 : decode cX6_owedOf 3 = .ok (.invokevirtual 53, 3) := by decide +kernel
theorem dX6_owedOf_6 : decode cX6_owedOf 6 = .ok (.istore_n 3, 1) := by decide +kernel
theorem dX6_owedOf_7 : decode cX6_owedOf 7 = .ok (.iload_n 3, 1) := by decide +kernel
theorem dX6_owedOf_8 : decode cX6_owedOf 8 = .ok (.iconst (-1), 1) := by decide +kernel
theorem dX6_owedOf_9 : decode cX6_owedOf 9 = .ok (.if_icmp .ne 7, 3) := by decide +kernel
theorem dX6_owedOf_12 : decode cX6_owedOf 12 = .ok (.iconst 0, 1) := by decide +kernel
theorem dX6_owedOf_13 : decode cX6_owedOf 13 = .ok (.goto 14, 3) := by decide +kernel
theorem dX6_owedOf_16 : decode cX6_owedOf 16 = .ok (.aload_n 0, 1) := by decide +kernel
theorem dX6_owedOf_17 : decode cX6_owedOf 17 = .ok (.getfield 7, 3) := by decide +kernel
theorem dX6_owedOf_20 : decode cX6_owedOf 20 = .ok (.iload_n 3, 1) := by decide +kernel
theorem dX6_owedOf_21 : decode cX6_owedOf 21 = .ok (.invokestatic 50, 3) := by decide +kernel
theorem dX6_owedOf_24 : decode cX6_owedOf 24 = .ok (.iconst 2, 1) := by decide +kernel
theorem dX6_owedOf_25 : decode cX6_owedOf 25 = .ok (.iadd, 1) := by decide +kernel
theorem dX6_owedOf_26 : decode cX6_owedOf 26 = .ok (.iaload, 1) := by decide +kernel
theorem dX6_owedOf_27 : decode cX6_owedOf 27 = .ok (.ireturn, 1) := by decide +kernel
theorem dX6_dropLoan_0 : decode cX6_dropLoan 0 = .ok (.aload_n 0, 1) := by decide +kernel
theorem dX6_dropLoan_1 : decode cX6_dropLoan 1 = .ok (.getfield 7, 3) := by decide +kernel
theorem dX6_dropLoan_4 : decode cX6_dropLoan 4 = .ok (.iconst 1, 1) := by decide +kernel
theorem dX6_dropLoan_5 : decode cX6_dropLoan 5 = .ok (.dup2, 1) := by decide +kernel
theorem dX6_dropLoan_6 : decode cX6_dropLoan 6 = .ok (.iaload, 1) := by decide +kernel
theorem dX6_dropLoan_7 : decode cX6_dropLoan 7 = .ok (.iconst 1, 1) := by decide +kernel
theorem dX6_dropLoan_8 : decode cX6_dropLoan 8 = .ok (.isub, 1) := by decide +kernel
theorem dX6_dropLoan_9 : decode cX6_dropLoan 9 = .ok (.iastore, 1) := by decide +kernel
theorem dX6_dropLoan_10 : decode cX6_dropLoan 10 = .ok (.iload_n 1, 1) := by decide +kernel
theorem dX6_dropLoan_11 : decode cX6_dropLoan 11 = .ok (.invokestatic 50, 3) := by decide +kernel
theorem dX6_dropLoan_14 : decode cX6_dropLoan 14 = .ok (.istore_n 2, 1) := by decide +kernel
theorem dX6_dropLoan_15 : decode cX6_dropLoan 15 = .ok (.iload_n 2, 1) := by decide +kernel
theorem dX6_dropLoan_16 : decode cX6_dropLoan 16 = .ok (.aload_n 0, 1) := by decide +kernel
theorem dX6_dropLoan_17 : decode cX6_dropLoan 17 = .ok (.getfield 7, 3) := by decide +kernel
theorem dX6_dropLoan_20 : decode cX6_dropLoan 20 = .ok (.iconst 1, 1) := by decide +kernel
theorem dX6_dropLoan_21 : decode cX6_dropLoan 21 = .ok (.iaload, 1) := by decide +kernel
theorem dX6_dropLoan_22 : decode cX6_dropLoan 22 = .ok (.invokestatic 50, 3) := by decide +kernel
theorem dX6_dropLoan_25 : decode cX6_dropLoan 25 = .ok (.if_icmp .ge 23, 3) := by decide +kernel
theorem dX6_dropLoan_28 : decode cX6_dropLoan 28 = .ok (.aload_n 0, 1) := by decide +kernel
theorem dX6_dropLoan_29 : decode cX6_dropLoan 29 = .ok (.getfield 7, 3) := by decide +kernel
theorem dX6_dropLoan_32 : decode cX6_dropLoan 32 = .ok (.iload_n 2, 1) := by decide +kernel
theorem dX6_dropLoan_33 : decode cX6_dropLoan 33 = .ok (.aload_n 0, 1) := by decide +kernel
theorem dX6_dropLoan_34 : decode cX6_dropLoan 34 = .ok (.getfield 7, 3) := by decide +kernel
theorem dX6_dropLoan_37 : decode cX6_dropLoan 37 = .ok (.iload_n 2, 1) := by decide +kernel
theorem dX6_dropLoan_38 : decode cX6_dropLoan 38 = .ok (.iconst 3, 1) := by decide +kernel
theorem dX6_dropLoan_39 : decode cX6_dropLoan 39 = .ok (.iadd, 1) := by decide +kernel
theorem dX6_dropLoan_40 : decode cX6_dropLoan 40 = .ok (.iaload, 1) := by decide +kernel
theorem dX6_dropLoan_41 : decode cX6_dropLoan 41 = .ok (.iastore, 1) := by decide +kernel
theorem dX6_dropLoan_42 : decode cX6_dropLoan 42 = .ok (.iinc 2 1, 3) := by decide +kernel
theorem dX6_dropLoan_45 : decode cX6_dropLoan 45 = .ok (.goto (-30), 3) := by decide +kernel
theorem dX6_dropLoan_48 : decode cX6_dropLoan 48 = .ok (.return_, 1) := by decide +kernel
theorem dX6_addLoan_0 : decode cX6_addLoan 0 = .ok (.aload_n 0, 1) := by decide +kernel
theorem dX6_addLoan_1 : decode cX6_addLoan 1 = .ok (.iload_n 1, 1) := by decide +kernel
theorem dX6_addLoan_2 : decode cX6_addLoan 2 = .ok (.iload_n 2, 1) := by decide +kernel
theorem dX6_addLoan_3 : decode cX6_addLoan 3 = .ok (.invokevirtual 53, 3) := by decide +kernel
theorem dX6_addLoan_6 : decode cX6_addLoan 6 = .ok (.istore 4, 2) := by decide +kernel
theorem dX6_addLoan_8 : decode cX6_addLoan 8 = .ok (.iload 4, 2) := by decide +kernel
theorem dX6_addLoan_10 : decode cX6_addLoan 10 = .ok (.iconst (-1), 1) := by decide +kernel
theorem dX6_addLoan_11 : decode cX6_addLoan 11 = .ok (.if_icmp .ne 58, 3) := by decide +kernel
theorem dX6_addLoan_14 : decode cX6_addLoan 14 = .ok (.aload_n 0, 1) := by decide +kernel
theorem dX6_addLoan_15 : decode cX6_addLoan 15 = .ok (.getfield 7, 3) := by decide +kernel
theorem dX6_addLoan_18 : decode cX6_addLoan 18 = .ok (.iconst 1, 1) := by decide +kernel
theorem dX6_addLoan_19 : decode cX6_addLoan 19 = .ok (.iaload, 1) := by decide +kernel
theorem dX6_addLoan_20 : decode cX6_addLoan 20 = .ok (.istore 4, 2) := by decide +kernel
theorem dX6_addLoan_22 : decode cX6_addLoan 22 = .ok (.aload_n 0, 1) := by decide +kernel
theorem dX6_addLoan_23 : decode cX6_addLoan 23 = .ok (.getfield 7, 3) := by decide +kernel
theorem dX6_addLoan_26 : decode cX6_addLoan 26 = .ok (.iload 4, 2) := by decide +kernel
theorem dX6_addLoan_28 : decode cX6_addLoan 28 = .ok (.invokestatic 50, 3) := by decide +kernel
theorem dX6_addLoan_31 : decode cX6_addLoan 31 = .ok (.iload_n 1, 1) := by decide +kernel
theorem dX6_addLoan_32 : decode cX6_addLoan 32 = .ok (.iastore, 1) := by decide +kernel
theorem dX6_addLoan_33 : decode cX6_addLoan 33 = .ok (.aload_n 0, 1) := by decide +kernel
theorem dX6_addLoan_34 : decode cX6_addLoan 34 = .ok (.getfield 7, 3) := by decide +kernel
theorem dX6_addLoan_37 : decode cX6_addLoan 37 = .ok (.iload 4, 2) := by decide +kernel
theorem dX6_addLoan_39 : decode cX6_addLoan 39 = .ok (.invokestatic 50, 3) := by decide +kernel
theorem dX6_addLoan_42 : decode cX6_addLoan 42 = .ok (.iconst 1, 1) := by decide +kernel
theorem dX6_addLoan_43 : decode cX6_addLoan 43 = .ok (.iadd, 1) := by decide +kernel
theorem dX6_addLoan_44 : decode cX6_addLoan 44 = .ok (.iload_n 2, 1) := by decide +kernel
theorem dX6_addLoan_45 : decode cX6_addLoan 45 = .ok (.iastore, 1) := by decide +kernel
theorem dX6_addLoan_46 : decode cX6_addLoan 46 = .ok (.aload_n 0, 1) := by decide +kernel
theorem dX6_addLoan_47 : decode cX6_addLoan 47 = .ok (.getfield 7, 3) := by decide +kernel
theorem dX6_addLoan_50 : decode cX6_addLoan 50 = .ok (.iload 4, 2) := by decide +kernel
theorem dX6_addLoan_52 : decode cX6_addLoan 52 = .ok (.invokestatic 50, 3) := by decide +kernel
theorem dX6_addLoan_55 : decode cX6_addLoan 55 = .ok (.iconst 2, 1) := by decide +kernel
theorem dX6_addLoan_56 : decode cX6_addLoan 56 = .ok (.iadd, 1) := by decide +kernel
theorem dX6_addLoan_57 : decode cX6_addLoan 57 = .ok (.iconst 0, 1) := by decide +kernel
theorem dX6_addLoan_58 : decode cX6_addLoan 58 = .ok (.iastore, 1) := by decide +kernel
theorem dX6_addLoan_59 : decode cX6_addLoan 59 = .ok (.aload_n 0, 1) := by decide +kernel
theorem dX6_addLoan_60 : decode cX6_addLoan 60 = .ok (.getfield 7, 3) := by decide +kernel
theorem dX6_addLoan_63 : decode cX6_addLoan 63 = .ok (.iconst 1, 1) := by decide +kernel
theorem dX6_addLoan_64 : decode cX6_addLoan 64 = .ok (.dup2, 1) := by decide +kernel
theorem dX6_addLoan_65 : decode cX6_addLoan 65 = .ok (.iaload, 1) := by decide +kernel
theorem dX6_addLoan_66 : decode cX6_addLoan 66 = .ok (.iconst 1, 1) := by decide +kernel
theorem dX6_addLoan_67 : decode cX6_addLoan 67 = .ok (.iadd, 1) := by decide +kernel
theorem dX6_addLoan_68 : decode cX6_addLoan 68 = .ok (.iastore, 1) := by decide +kernel
theorem dX6_addLoan_69 : decode cX6_addLoan 69 = .ok (.aload_n 0, 1) := by decide +kernel
theorem dX6_addLoan_70 : decode cX6_addLoan 70 = .ok (.getfield 7, 3) := by decide +kernel
theorem dX6_addLoan_73 : decode cX6_addLoan 73 = .ok (.iload 4, 2) := by decide +kernel
theorem dX6_addLoan_75 : decode cX6_addLoan 75 = .ok (.invokestatic 50, 3) := by decide +kernel
theorem dX6_addLoan_78 : decode cX6_addLoan 78 = .ok (.iconst 2, 1) := by decide +kernel
theorem dX6_addLoan_79 : decode cX6_addLoan 79 = .ok (.iadd, 1) := by decide +kernel
theorem dX6_addLoan_80 : decode cX6_addLoan 80 = .ok (.dup2, 1) := by decide +kernel
theorem dX6_addLoan_81 : decode cX6_addLoan 81 = .ok (.iaload, 1) := by decide +kernel
theorem dX6_addLoan_82 : decode cX6_addLoan 82 = .ok (.iload_n 3, 1) := by decide +kernel
theorem dX6_addLoan_83 : decode cX6_addLoan 83 = .ok (.iadd, 1) := by decide +kernel
theorem dX6_addLoan_84 : decode cX6_addLoan 84 = .ok (.iastore, 1) := by decide +kernel
theorem dX6_addLoan_85 : decode cX6_addLoan 85 = .ok (.return_, 1) := by decide +kernel
theorem dX6_cutLoan_0 : decode cX6_cutLoan 0 = .ok (.aload_n 0, 1) := by decide +kernel
theorem dX6_cutLoan_1 : decode cX6_cutLoan 1 = .ok (.getfield 7, 3) := by decide +kernel
theorem dX6_cutLoan_4 : decode cX6_cutLoan 4 = .ok (.iload_n 1, 1) := by decide +kernel
theorem dX6_cutLoan_5 : decode cX6_cutLoan 5 = .ok (.invokestatic 50, 3) := by decide +kernel
theorem dX6_cutLoan_8 : decode cX6_cutLoan 8 = .ok (.iconst 2, 1) := by decide +kernel
theorem dX6_cutLoan_9 : decode cX6_cutLoan 9 = .ok (.iadd, 1) := by decide +kernel
theorem dX6_cutLoan_10 : decode cX6_cutLoan 10 = .ok (.dup2, 1) := by decide +kernel
theorem dX6_cutLoan_11 : decode cX6_cutLoan 11 = .ok (.iaload, 1) := by decide +kernel
theorem dX6_cutLoan_12 : decode cX6_cutLoan 12 = .ok (.iload_n 2, 1) := by decide +kernel
theorem dX6_cutLoan_13 : decode cX6_cutLoan 13 = .ok (.isub, 1) := by decide +kernel
theorem dX6_cutLoan_14 : decode cX6_cutLoan 14 = .ok (.iastore, 1) := by decide +kernel
theorem dX6_cutLoan_15 : decode cX6_cutLoan 15 = .ok (.aload_n 0, 1) := by decide +kernel
theorem dX6_cutLoan_16 : decode cX6_cutLoan 16 = .ok (.getfield 7, 3) := by decide +kernel
theorem dX6_cutLoan_19 : decode cX6_cutLoan 19 = .ok (.iload_n 1, 1) := by decide +kernel
theorem dX6_cutLoan_20 : decode cX6_cutLoan 20 = .ok (.invokestatic 50, 3) := by decide +kernel
theorem dX6_cutLoan_23 : decode cX6_cutLoan 23 = .ok (.iconst 2, 1) := by decide +kernel
theorem dX6_cutLoan_24 : decode cX6_cutLoan 24 = .ok (.iadd, 1) := by decide +kernel
theorem dX6_cutLoan_25 : decode cX6_cutLoan 25 = .ok (.iaload, 1) := by decide +kernel
theorem dX6_cutLoan_26 : decode cX6_cutLoan 26 = .ok (.ifCond .ne 8, 3) := by decide +kernel
theorem dX6_cutLoan_29 : decode cX6_cutLoan 29 = .ok (.aload_n 0, 1) := by decide +kernel
theorem dX6_cutLoan_30 : decode cX6_cutLoan 30 = .ok (.iload_n 1, 1) := by decide +kernel
theorem dX6_cutLoan_31 : decode cX6_cutLoan 31 = .ok (.invokevirtual 57, 3) := by decide +kernel
theorem dX6_cutLoan_34 : decode cX6_cutLoan 34 = .ok (.return_, 1) := by decide +kernel
theorem dX6_payAll_0 : decode cX6_payAll 0 = .ok (.iload_n 2, 1) := by decide +kernel
theorem dX6_payAll_1 : decode cX6_payAll 1 = .ok (.aload_n 0, 1) := by decide +kernel
theorem dX6_payAll_2 : decode cX6_payAll 2 = .ok (.getfield 7, 3) := by decide +kernel
theorem dX6_payAll_5 : decode cX6_payAll 5 = .ok (.iload_n 1, 1) := by decide +kernel
theorem dX6_payAll_6 : decode cX6_payAll 6 = .ok (.invokestatic 39, 3) := by decide +kernel
theorem dX6_payAll_9 : decode cX6_payAll 9 = .ok (.iconst 2, 1) := by decide +kernel
theorem dX6_payAll_10 : decode cX6_payAll 10 = .ok (.iadd, 1) := by decide +kernel
theorem dX6_payAll_11 : decode cX6_payAll 11 = .ok (.iaload, 1) := by decide +kernel
theorem dX6_payAll_12 : decode cX6_payAll 12 = .ok (.invokestatic 61, 3) := by decide +kernel
theorem dX6_payAll_15 : decode cX6_payAll 15 = .ok (.istore_n 3, 1) := by decide +kernel
theorem dX6_payAll_16 : decode cX6_payAll 16 = .ok (.iconst 0, 1) := by decide +kernel
theorem dX6_payAll_17 : decode cX6_payAll 17 = .ok (.istore 4, 2) := by decide +kernel
theorem dX6_payAll_19 : decode cX6_payAll 19 = .ok (.iload 4, 2) := by decide +kernel
theorem dX6_payAll_21 : decode cX6_payAll 21 = .ok (.aload_n 0, 1) := by decide +kernel
theorem dX6_payAll_22 : decode cX6_payAll 22 = .ok (.getfield 7, 3) := by decide +kernel
theorem dX6_payAll_25 : decode cX6_payAll 25 = .ok (.iconst 1, 1) := by decide +kernel
theorem dX6_payAll_26 : decode cX6_payAll 26 = .ok (.iaload, 1) := by decide +kernel
theorem dX6_payAll_27 : decode cX6_payAll 27 = .ok (.if_icmp .ge 143, 3) := by decide +kernel
theorem dX6_payAll_30 : decode cX6_payAll 30 = .ok (.iload_n 3, 1) := by decide +kernel
theorem dX6_payAll_31 : decode cX6_payAll 31 = .ok (.ifCond .le 139, 3) := by decide +kernel
theorem dX6_payAll_34 : decode cX6_payAll 34 = .ok (.aload_n 0, 1) := by decide +kernel
theorem dX6_payAll_35 : decode cX6_payAll 35 = .ok (.getfield 7, 3) := by decide +kernel
theorem dX6_payAll_38 : decode cX6_payAll 38 = .ok (.iload 4, 2) := by decide +kernel
theorem dX6_payAll_40 : decode cX6_payAll 40 = .ok (.invokestatic 50, 3) := by decide +kernel
theorem dX6_payAll_43 : decode cX6_payAll 43 = .ok (.iconst 1, 1) := by decide +kernel
theorem dX6_payAll_44 : decode cX6_payAll 44 = .ok (.iadd, 1) := by decide +kernel
theorem dX6_payAll_45 : decode cX6_payAll 45 = .ok (.iaload, 1) := by decide +kernel
theorem dX6_payAll_46 : decode cX6_payAll 46 = .ok (.iload_n 1, 1) := by decide +kernel
theorem dX6_payAll_47 : decode cX6_payAll 47 = .ok (.if_icmp .ne 117, 3) := by decide +kernel
theorem dX6_payAll_50 : decode cX6_payAll 50 = .ok (.iload_n 3, 1) := by decide +kernel
theorem dX6_payAll_51 : decode cX6_payAll 51 = .ok (.aload_n 0, 1) := by decide +kernel
theorem dX6_payAll_52 : decode cX6_payAll 52 = .ok (.getfield 7, 3) := by decide +kernel
theorem dX6_payAll_55 : decode cX6_payAll 55 = .ok (.iload 4, 2) := by decide +kernel
theorem dX6_payAll_57 : decode cX6_payAll 57 = .ok (.invokestatic 50, 3) := by decide +kernel
theorem dX6_payAll_60 : decode cX6_payAll 60 = .ok (.iconst 2, 1) := by decide +kernel
theorem dX6_payAll_61 : decode cX6_payAll 61 = .ok (.iadd, 1) := by decide +kernel
theorem dX6_payAll_62 : decode cX6_payAll 62 = .ok (.iaload, 1) := by decide +kernel
theorem dX6_payAll_63 : decode cX6_payAll 63 = .ok (.invokestatic 61, 3) := by decide +kernel
theorem dX6_payAll_66 : decode cX6_payAll 66 = .ok (.istore 5, 2) := by decide +kernel
theorem dX6_payAll_68 : decode cX6_payAll 68 = .ok (.iload 5, 2) := by decide +kernel
theorem dX6_payAll_70 : decode cX6_payAll 70 = .ok (.aload_n 0, 1) := by decide +kernel
theorem dX6_payAll_71 : decode cX6_payAll 71 = .ok (.getfield 7, 3) := by decide +kernel
theorem dX6_payAll_74 : decode cX6_payAll 74 = .ok (.iload 4, 2) := by decide +kernel
theorem dX6_payAll_76 : decode cX6_payAll 76 = .ok (.invokestatic 50, 3) := by decide +kernel
theorem dX6_payAll_79 : decode cX6_payAll 79 = .ok (.iconst 2, 1) := by decide +kernel
theorem dX6_payAll_80 : decode cX6_payAll 80 = .ok (.iadd, 1) := by decide +kernel
theorem dX6_payAll_81 : decode cX6_payAll 81 = .ok (.iaload, 1) := by decide +kernel
theorem dX6_payAll_82 : decode cX6_payAll 82 = .ok (.if_icmp .ne 7, 3) := by decide +kernel
theorem dX6_payAll_85 : decode cX6_payAll 85 = .ok (.iconst 1, 1) := by decide +kernel
theorem dX6_payAll_86 : decode cX6_payAll 86 = .ok (.goto 4, 3) := by decide +kernel
theorem dX6_payAll_89 : decode cX6_payAll 89 = .ok (.iconst 0, 1) := by decide +kernel
theorem dX6_payAll_90 : decode cX6_payAll 90 = .ok (.istore 6, 2) := by decide +kernel
theorem dX6_payAll_92 : decode cX6_payAll 92 = .ok (.aload_n 0, 1) := by decide +kernel
theorem dX6_payAll_93 : decode cX6_payAll 93 = .ok (.getfield 7, 3) := by decide +kernel
theorem dX6_payAll_96 : decode cX6_payAll 96 = .ok (.iload_n 1, 1) := by decide +kernel
theorem dX6_payAll_97 : decode cX6_payAll 97 = .ok (.invokestatic 39, 3) := by decide +kernel
theorem dX6_payAll_100 : decode cX6_payAll 100 = .ok (.iconst 2, 1) := by decide +kernel
theorem dX6_payAll_101 : decode cX6_payAll 101 = .ok (.iadd, 1) := by decide +kernel
theorem dX6_payAll_102 : decode cX6_payAll 102 = .ok (.dup2, 1) := by decide +kernel
theorem dX6_payAll_103 : decode cX6_payAll 103 = .ok (.iaload, 1) := by decide +kernel
theorem dX6_payAll_104 : decode cX6_payAll 104 = .ok (.iload 5, 2) := by decide +kernel
theorem dX6_payAll_106 : decode cX6_payAll 106 = .ok (.isub, 1) := by decide +kernel
theorem dX6_payAll_107 : decode cX6_payAll 107 = .ok (.iastore, 1) := by decide +kernel
theorem dX6_payAll_108 : decode cX6_payAll 108 = .ok (.aload_n 0, 1) := by decide +kernel
theorem dX6_payAll_109 : decode cX6_payAll 109 = .ok (.getfield 7, 3) := by decide +kernel
theorem dX6_payAll_112 : decode cX6_payAll 112 = .ok (.aload_n 0, 1) := by decide +kernel
theorem dX6_payAll_113 : decode cX6_payAll 113 = .ok (.getfield 7, 3) := by decide +kernel
theorem dX6_payAll_116 : decode cX6_payAll 116 = .ok (.iload 4, 2) := by decide +kernel
theorem dX6_payAll_118 : decode cX6_payAll 118 = .ok (.invokestatic 50, 3) := by decide +kernel
theorem dX6_payAll_121 : decode cX6_payAll 121 = .ok (.iaload, 1) := by decide +kernel
theorem dX6_payAll_122 : decode cX6_payAll 122 = .ok (.invokestatic 39, 3) := by decide +kernel
theorem dX6_payAll_125 : decode cX6_payAll 125 = .ok (.iconst 2, 1) := by decide +kernel
theorem dX6_payAll_126 : decode cX6_payAll 126 = .ok (.iadd, 1) := by decide +kernel
theorem dX6_payAll_127 : decode cX6_payAll 127 = .ok (.dup2, 1) := by decide +kernel
theorem dX6_payAll_128 : decode cX6_payAll 128 = .ok (.iaload, 1) := by decide +kernel
theorem dX6_payAll_129 : decode cX6_payAll 129 = .ok (.iload 5, 2) := by decide +kernel
theorem dX6_payAll_131 : decode cX6_payAll 131 = .ok (.iadd, 1) := by decide +kernel
theorem dX6_payAll_132 : decode cX6_payAll 132 = .ok (.iastore, 1) := by decide +kernel
theorem dX6_payAll_133 : decode cX6_payAll 133 = .ok (.iload_n 3, 1) := by decide +kernel
theorem dX6_payAll_134 : decode cX6_payAll 134 = .ok (.iload 5, 2) := by decide +kernel
theorem dX6_payAll_136 : decode cX6_payAll 136 = .ok (.isub, 1) := by decide +kernel
theorem dX6_payAll_137 : decode cX6_payAll 137 = .ok (.istore_n 3, 1) := by decide +kernel
theorem dX6_payAll_138 : decode cX6_payAll 138 = .ok (.aload_n 0, 1) := by decide +kernel
theorem dX6_payAll_139 : decode cX6_payAll 139 = .ok (.iload 4, 2) := by decide +kernel
theorem dX6_payAll_141 : decode cX6_payAll 141 = .ok (.iload 5, 2) := by decide +kernel
theorem dX6_payAll_143 : decode cX6_payAll 143 = .ok (.invokevirtual 64, 3) := by decide +kernel
theorem dX6_payAll_146 : decode cX6_payAll 146 = .ok (.iload 4, 2) := by decide +kernel
theorem dX6_payAll_148 : decode cX6_payAll 148 = .ok (.iload 6, 2) := by decide +kernel
theorem dX6_payAll_150 : decode cX6_payAll 150 = .ok (.ifCond .eq 7, 3) := by decide +kernel
theorem dX6_payAll_153 : decode cX6_payAll 153 = .ok (.iconst 0, 1) := by decide +kernel
theorem dX6_payAll_154 : decode cX6_payAll 154 = .ok (.goto 4, 3) := by decide +kernel
theorem dX6_payAll_157 : decode cX6_payAll 157 = .ok (.iconst 1, 1) := by decide +kernel
theorem dX6_payAll_158 : decode cX6_payAll 158 = .ok (.iadd, 1) := by decide +kernel
theorem dX6_payAll_159 : decode cX6_payAll 159 = .ok (.istore 4, 2) := by decide +kernel
theorem dX6_payAll_161 : decode cX6_payAll 161 = .ok (.goto (-142), 3) := by decide +kernel
theorem dX6_payAll_164 : decode cX6_payAll 164 = .ok (.iinc 4 1, 3) := by decide +kernel
theorem dX6_payAll_167 : decode cX6_payAll 167 = .ok (.goto (-148), 3) := by decide +kernel
theorem dX6_payAll_170 : decode cX6_payAll 170 = .ok (.return_, 1) := by decide +kernel
theorem dX6_lentBy_0 : decode cX6_lentBy 0 = .ok (.iconst 0, 1) := by decide +kernel
theorem dX6_lentBy_1 : decode cX6_lentBy 1 = .ok (.istore_n 2, 1) := by decide +kernel
theorem dX6_lentBy_2 : decode cX6_lentBy 2 = .ok (.iconst 0, 1) := by decide +kernel
theorem dX6_lentBy_3 : decode cX6_lentBy 3 = .ok (.istore_n 3, 1) := by decide +kernel
theorem dX6_lentBy_4 : decode cX6_lentBy 4 = .ok (.iload_n 3, 1) := by decide +kernel
theorem dX6_lentBy_5 : decode cX6_lentBy 5 = .ok (.aload_n 0, 1) := by decide +kernel
theorem dX6_lentBy_6 : decode cX6_lentBy 6 = .ok (.getfield 7, 3) := by decide +kernel
theorem dX6_lentBy_9 : decode cX6_lentBy 9 = .ok (.iconst 1, 1) := by decide +kernel
theorem dX6_lentBy_10 : decode cX6_lentBy 10 = .ok (.iaload, 1) := by decide +kernel
theorem dX6_lentBy_11 : decode cX6_lentBy 11 = .ok (.if_icmp .ge 40, 3) := by decide +kernel
theorem dX6_lentBy_14 : decode cX6_lentBy 14 = .ok (.iload_n 2, 1) := by decide +kernel
theorem dX6_lentBy_15 : decode cX6_lentBy 15 = .ok (.aload_n 0, 1) := by decide +kernel
theorem dX6_lentBy_16 : decode cX6_lentBy 16 = .ok (.getfield 7, 3) := by decide +kernel
theorem dX6_lentBy_19 : decode cX6_lentBy 19 = .ok (.iload_n 3, 1) := by decide +kernel
theorem dX6_lentBy_20 : decode cX6_lentBy 20 = .ok (.invokestatic 50, 3) := by decide +kernel
theorem dX6_lentBy_23 : decode cX6_lentBy 23 = .ok (.iaload, 1) := by decide +kernel
theorem dX6_lentBy_24 : decode cX6_lentBy 24 = .ok (.iload_n 1, 1) := by decide +kernel
theorem dX6_lentBy_25 : decode cX6_lentBy 25 = .ok (.if_icmp .ne 17, 3) := by decide +kernel
theorem dX6_lentBy_28 : decode cX6_lentBy 28 = .ok (.aload_n 0, 1) := by decide +kernel
theorem dX6_lentBy_29 : decode cX6_lentBy 29 = .ok (.getfield 7, 3) := by decide +kernel
theorem dX6_lentBy_32 : decode cX6_lentBy 32 = .ok (.iload_n 3, 1) := by decide +kernel
theorem dX6_lentBy_33 : decode cX6_lentBy 33 = .ok (.invokestatic 50, 3) := by decide +kernel
theorem dX6_lentBy_36 : decode cX6_lentBy 36 = .ok (.iconst 2, 1) := by decide +kernel
theorem dX6_lentBy_37 : decode cX6_lentBy 37 = .ok (.iadd, 1) := by decide +kernel
theorem dX6_lentBy_38 : decode cX6_lentBy 38 = .ok (.iaload, 1) := by decide +kernel
theorem dX6_lentBy_39 : decode cX6_lentBy 39 = .ok (.goto 4, 3) := by decide +kernel
theorem dX6_lentBy_42 : decode cX6_lentBy 42 = .ok (.iconst 0, 1) := by decide +kernel
theorem dX6_lentBy_43 : decode cX6_lentBy 43 = .ok (.iadd, 1) := by decide +kernel
theorem dX6_lentBy_44 : decode cX6_lentBy 44 = .ok (.istore_n 2, 1) := by decide +kernel
theorem dX6_lentBy_45 : decode cX6_lentBy 45 = .ok (.iinc 3 1, 3) := by decide +kernel
theorem dX6_lentBy_48 : decode cX6_lentBy 48 = .ok (.goto (-44), 3) := by decide +kernel
theorem dX6_lentBy_51 : decode cX6_lentBy 51 = .ok (.iload_n 2, 1) := by decide +kernel
theorem dX6_lentBy_52 : decode cX6_lentBy 52 = .ok (.ireturn, 1) := by decide +kernel
theorem dX6_owedBy_0 : decode cX6_owedBy 0 = .ok (.iconst 0, 1) := by decide +kernel
theorem dX6_owedBy_1 : decode cX6_owedBy 1 = .ok (.istore_n 2, 1) := by decide +kernel
theorem dX6_owedBy_2 : decode cX6_owedBy 2 = .ok (.iconst 0, 1) := by decide +kernel
theorem dX6_owedBy_3 : decode cX6_owedBy 3 = .ok (.istore_n 3, 1) := by decide +kernel
theorem dX6_owedBy_4 : decode cX6_owedBy 4 = .ok (.iload_n 3, 1) := by decide +kernel
theorem dX6_owedBy_5 : decode cX6_owedBy 5 = .ok (.aload_n 0, 1) := by decide +kernel
theorem dX6_owedBy_6 : decode cX6_owedBy 6 = .ok (.getfield 7, 3) := by decide +kernel
theorem dX6_owedBy_9 : decode cX6_owedBy 9 = .ok (.iconst 1, 1) := by decide +kernel
theorem dX6_owedBy_10 : decode cX6_owedBy 10 = .ok (.iaload, 1) := by decide +kernel
theorem dX6_owedBy_11 : decode cX6_owedBy 11 = .ok (.if_icmp .ge 42, 3) := by decide +kernel
theorem dX6_owedBy_14 : decode cX6_owedBy 14 = .ok (.iload_n 2, 1) := by decide +kernel
theorem dX6_owedBy_15 : decode cX6_owedBy 15 = .ok (.aload_n 0, 1) := by decide +kernel
theorem dX6_owedBy_16 : decode cX6_owedBy 16 = .ok (.getfield 7, 3) := by decide +kernel
theorem dX6_owedBy_19 : decode cX6_owedBy 19 = .ok (.iload_n 3, 1) := by decide +kernel
theorem dX6_owedBy_20 : decode cX6_owedBy 20 = .ok (.invokestatic 50, 3) := by decide +kernel
theorem dX6_owedBy_23 : decode cX6_owedBy 23 = .ok (.iconst 1, 1) := by decide +kernel
theorem dX6_owedBy_24 : decode cX6_owedBy 24 = .ok (.iadd, 1) := by decide +kernel
theorem dX6_owedBy_25 : decode cX6_owedBy 25 = .ok (.iaload, 1) := by decide +kernel
theorem dX6_owedBy_26 : decode cX6_owedBy 26 = .ok (.iload_n 1, 1) := by decide +kernel
theorem dX6_owedBy_27 : decode cX6_owedBy 27 = .ok (.if_icmp .ne 17, 3) := by decide +kernel
theorem dX6_owedBy_30 : decode cX6_owedBy 30 = .ok (.aload_n 0, 1) := by decide +kernel
theorem dX6_owedBy_31 : decode cX6_owedBy 31 = .ok (.getfield 7, 3) := by decide +kernel
theorem dX6_owedBy_34 : decode cX6_owedBy 34 = .ok (.iload_n 3, 1) := by decide +kernel
theorem dX6_owedBy_35 : decode cX6_owedBy 35 = .ok (.invokestatic 50, 3) := by decide +kernel
theorem dX6_owedBy_38 : decode cX6_owedBy 38 = .ok (.iconst 2, 1) := by decide +kernel
theorem dX6_owedBy_39 : decode cX6_owedBy 39 = .ok (.iadd, 1) := by decide +kernel
theorem dX6_owedBy_40 : decode cX6_owedBy 40 = .ok (.iaload, 1) := by decide +kernel
theorem dX6_owedBy_41 : decode cX6_owedBy 41 = .ok (.goto 4, 3) := by decide +kernel
theorem dX6_owedBy_44 : decode cX6_owedBy 44 = .ok (.iconst 0, 1) := by decide +kernel
theorem dX6_owedBy_45 : decode cX6_owedBy 45 = .ok (.iadd, 1) := by decide +kernel
theorem dX6_owedBy_46 : decode cX6_owedBy 46 = .ok (.istore_n 2, 1) := by decide +kernel
theorem dX6_owedBy_47 : decode cX6_owedBy 47 = .ok (.iinc 3 1, 3) := by decide +kernel
theorem dX6_owedBy_50 : decode cX6_owedBy 50 = .ok (.goto (-46), 3) := by decide +kernel
theorem dX6_owedBy_53 : decode cX6_owedBy 53 = .ok (.iload_n 2, 1) := by decide +kernel
theorem dX6_owedBy_54 : decode cX6_owedBy 54 = .ok (.ireturn, 1) := by decide +kernel
theorem dX6_canLend_0 : decode cX6_canLend 0 = .ok (.iload_n 1, 1) := by decide +kernel
theorem dX6_canLend_1 : decode cX6_canLend 1 = .ok (.invokestatic 39, 3) := by decide +kernel
theorem dX6_canLend_4 : decode cX6_canLend 4 = .ok (.istore_n 2, 1) := by decide +kernel
theorem dX6_canLend_5 : decode cX6_canLend 5 = .ok (.aload_n 0, 1) := by decide +kernel
theorem dX6_canLend_6 : decode cX6_canLend 6 = .ok (.getfield 7, 3) := by decide +kernel
theorem dX6_canLend_9 : decode cX6_canLend 9 = .ok (.iload_n 2, 1) := by decide +kernel
theorem dX6_canLend_10 : decode cX6_canLend 10 = .ok (.iconst 2, 1) := by decide +kernel
theorem dX6_canLend_11 : decode cX6_canLend 11 = .ok (.iadd, 1) := by decide +kernel
theorem dX6_canLend_12 : decode cX6_canLend 12 = .ok (.iaload, 1) := by decide +kernel
theorem dX6_canLend_13 : decode cX6_canLend 13 = .ok (.aload_n 0, 1) := by decide +kernel
theorem dX6_canLend_14 : decode cX6_canLend 14 = .ok (.getfield 7, 3) := by decide +kernel
theorem dX6_canLend_17 : decode cX6_canLend 17 = .ok (.iload_n 2, 1) := by decide +kernel
theorem dX6_canLend_18 : decode cX6_canLend 18 = .ok (.iconst 1, 1) := by decide +kernel
theorem dX6_canLend_19 : decode cX6_canLend 19 = .ok (.iadd, 1) := by decide +kernel
theorem dX6_canLend_20 : decode cX6_canLend 20 = .ok (.iaload, 1) := by decide +kernel
theorem dX6_canLend_21 : decode cX6_canLend 21 = .ok (.aload_n 0, 1) := by decide +kernel
theorem dX6_canLend_22 : decode cX6_canLend 22 = .ok (.getfield 7, 3) := by decide +kernel
theorem dX6_canLend_25 : decode cX6_canLend 25 = .ok (.iconst 4, 1) := by decide +kernel
theorem dX6_canLend_26 : decode cX6_canLend 26 = .ok (.iaload, 1) := by decide +kernel
theorem dX6_canLend_27 : decode cX6_canLend 27 = .ok (.imul, 1) := by decide +kernel
theorem dX6_canLend_28 : decode cX6_canLend 28 = .ok (.bipush 100, 2) := by decide +kernel
theorem dX6_canLend_30 : decode cX6_canLend 30 = .ok (.idiv, 1) := by decide +kernel
theorem dX6_canLend_31 : decode cX6_canLend 31 = .ok (.isub, 1) := by decide +kernel
theorem dX6_canLend_32 : decode cX6_canLend 32 = .ok (.istore_n 3, 1) := by decide +kernel
theorem dX6_canLend_33 : decode cX6_canLend 33 = .ok (.aload_n 0, 1) := by decide +kernel
theorem dX6_canLend_34 : decode cX6_canLend 34 = .ok (.iload_n 1, 1) := by decide +kernel
theorem dX6_canLend_35 : decode cX6_canLend 35 = .ok (.invokevirtual 43, 3) := by decide +kernel
theorem dX6_canLend_38 : decode cX6_canLend 38 = .ok (.ifCond .eq 11, 3) := by decide +kernel
theorem dX6_canLend_41 : decode cX6_canLend 41 = .ok (.iload_n 3, 1) := by decide +kernel
theorem dX6_canLend_42 : decode cX6_canLend 42 = .ok (.ifCond .le 7, 3) := by decide +kernel
theorem dX6_canLend_45 : decode cX6_canLend 45 = .ok (.iload_n 3, 1) := by decide +kernel
theorem dX6_canLend_46 : decode cX6_canLend 46 = .ok (.goto 4, 3) := by decide +kernel
theorem dX6_canLend_49 : decode cX6_canLend 49 = .ok (.iconst 0, 1) := by decide +kernel
theorem dX6_canLend_50 : decode cX6_canLend 50 = .ok (.ireturn, 1) := by decide +kernel
theorem dX6_merit_0 : decode cX6_merit 0 = .ok (.aload_n 0, 1) := by decide +kernel
theorem dX6_merit_1 : decode cX6_merit 1 = .ok (.getfield 7, 3) := by decide +kernel
theorem dX6_merit_4 : decode cX6_merit 4 = .ok (.iconst 3, 1) := by decide +kernel
theorem dX6_merit_5 : decode cX6_merit 5 = .ok (.iaload, 1) := by decide +kernel
theorem dX6_merit_6 : decode cX6_merit 6 = .ok (.ifCond .ne 13, 3) := by decide +kernel
theorem dX6_merit_9 : decode cX6_merit 9 = .ok (.aload_n 0, 1) := by decide +kernel
theorem dX6_merit_10 : decode cX6_merit 10 = .ok (.getfield 7, 3) := by decide +kernel
theorem dX6_merit_13 : decode cX6_merit 13 = .ok (.iload_n 1, 1) := by decide +kernel
theorem dX6_merit_14 : decode cX6_merit 14 = .ok (.invokestatic 39, 3) := by decide +kernel
theorem dX6_merit_17 : decode cX6_merit 17 = .ok (.iaload, 1) := by decide +kernel
theorem dX6_merit_18 : decode cX6_merit 18 = .ok (.ireturn, 1) := by decide +kernel
theorem dX6_merit_19 : decode cX6_merit 19 = .ok (.aload_n 0, 1) := by decide +kernel
theorem dX6_merit_20 : decode cX6_merit 20 = .ok (.getfield 7, 3) := by decide +kernel
theorem dX6_merit_23 : decode cX6_merit 23 = .ok (.iconst 3, 1) := by decide +kernel
theorem dX6_merit_24 : decode cX6_merit 24 = .ok (.iaload, 1) := by decide +kernel
theorem dX6_merit_25 : decode cX6_merit 25 = .ok (.iconst 1, 1) := by decide +kernel
theorem dX6_merit_26 : decode cX6_merit 26 = .ok (.if_icmp .ne 11, 3) := by decide +kernel
theorem dX6_merit_29 : decode cX6_merit 29 = .ok (.aload_n 0, 1) := by decide +kernel
theorem dX6_merit_30 : decode cX6_merit 30 = .ok (.iload_n 1, 1) := by decide +kernel
theorem dX6_merit_31 : decode cX6_merit 31 = .ok (.invokevirtual 68, 3) := by decide +kernel
theorem dX6_merit_34 : decode cX6_merit 34 = .ok (.goto 9, 3) := by decide +kernel
theorem dX6_merit_37 : decode cX6_merit 37 = .ok (.aload_n 0, 1) := by decide +kernel
theorem dX6_merit_38 : decode cX6_merit 38 = .ok (.iload_n 1, 1) := by decide +kernel
theorem dX6_merit_39 : decode cX6_merit 39 = .ok (.invokevirtual 71, 3) := by decide +kernel
theorem dX6_merit_42 : decode cX6_merit 42 = .ok (.ineg, 1) := by decide +kernel
theorem dX6_merit_43 : decode cX6_merit 43 = .ok (.ireturn, 1) := by decide +kernel
theorem dX6_layOrder_0 : decode cX6_layOrder 0 = .ok (.iconst 1, 1) := by decide +kernel
theorem dX6_layOrder_1 : decode cX6_layOrder 1 = .ok (.iload_n 1, 1) := by decide +kernel
theorem dX6_layOrder_2 : decode cX6_layOrder 2 = .ok (.ishl, 1) := by decide +kernel
theorem dX6_layOrder_3 : decode cX6_layOrder 3 = .ok (.istore_n 2, 1) := by decide +kernel
theorem dX6_layOrder_4 : decode cX6_layOrder 4 = .ok (.aload_n 0, 1) := by decide +kernel
theorem dX6_layOrder_5 : decode cX6_layOrder 5 = .ok (.iconst 0, 1) := by decide +kernel
theorem dX6_layOrder_6 : decode cX6_layOrder 6 = .ok (.putfield 74, 3) := by decide +kernel
theorem dX6_layOrder_9 : decode cX6_layOrder 9 = .ok (.aload_n 0, 1) := by decide +kernel
theorem dX6_layOrder_10 : decode cX6_layOrder 10 = .ok (.iload_n 1, 1) := by decide +kernel
theorem dX6_layOrder_11 : decode cX6_layOrder 11 = .ok (.invokevirtual 43, 3) := by decide +kernel
theorem dX6_layOrder_14 : decode cX6_layOrder 14 = .ok (.istore_n 3, 1) := by decide +kernel
theorem dX6_layOrder_15 : decode cX6_layOrder 15 = .ok (.iload_n 3, 1) := by decide +kernel
theorem dX6_layOrder_16 : decode cX6_layOrder 16 = .ok (.ifCond .eq 133, 3) := by decide +kernel
theorem dX6_layOrder_19 : decode cX6_layOrder 19 = .ok (.iconst (-1), 1) := by decide +kernel
theorem dX6_layOrder_20 : decode cX6_layOrder 20 = .ok (.istore 4, 2) := by decide +kernel
theorem dX6_layOrder_22 : decode cX6_layOrder 22 = .ok (.iconst 0, 1) := by decide +kernel
theorem dX6_layOrder_23 : decode cX6_layOrder 23 = .ok (.istore 5, 2) := by decide +kernel
theorem dX6_layOrder_25 : decode cX6_layOrder 25 = .ok (.iload 5, 2) := by decide +kernel
theorem dX6_layOrder_27 : decode cX6_layOrder 27 = .ok (.aload_n 0, 1) := by decide +kernel
theorem dX6_layOrder_28 : decode cX6_layOrder 28 = .ok (.getfield 7, 3) := by decide +kernel
theorem dX6_layOrder_31 : decode cX6_layOrder 31 = .ok (.iconst 0, 1) := by decide +kernel
theorem dX6_layOrder_32 : decode cX6_layOrder 32 = .ok (.iaload, 1) := by decide +kernel
theorem dX6_layOrder_33 : decode cX6_layOrder 33 = .ok (.if_icmp .ge 69, 3) := by decide +kernel
theorem dX6_layOrder_36 : decode cX6_layOrder 36 = .ok (.iload_n 2, 1) := by decide +kernel
theorem dX6_layOrder_37 : decode cX6_layOrder 37 = .ok (.iload 5, 2) := by decide +kernel
theorem dX6_layOrder_39 : decode cX6_layOrder 39 = .ok (.ishr, 1) := by decide +kernel
theorem dX6_layOrder_40 : decode cX6_layOrder 40 = .ok (.iconst 1, 1) := by decide +kernel
theorem dX6_layOrder_41 : decode cX6_layOrder 41 = .ok (.iand, 1) := by decide +kernel
theorem dX6_layOrder_42 : decode cX6_layOrder 42 = .ok (.ifCond .ne 16, 3) := by decide +kernel
theorem dX6_layOrder_45 : decode cX6_layOrder 45 = .ok (.aload_n 0, 1) := by decide +kernel
theorem dX6_layOrder_46 : decode cX6_layOrder 46 = .ok (.iload 5, 2) := by decide +kernel
theorem dX6_layOrder_48 : decode cX6_layOrder 48 = .ok (.invokevirtual 68, 3) := by decide +kernel
theorem dX6_layOrder_51 : decode cX6_layOrder 51 = .ok (.ifCond .le 7, 3) := by decide +kernel
theorem dX6_layOrder_54 : decode cX6_layOrder 54 = .ok (.iconst 1, 1) := by decide +kernel
theorem dX6_layOrder_55 : decode cX6_layOrder 55 = .ok (.goto 4, 3) := by decide +kernel
theorem dX6_layOrder_58 : decode cX6_layOrder 58 = .ok (.iconst 0, 1) := by decide +kernel
theorem dX6_layOrder_59 : decode cX6_layOrder 59 = .ok (.istore 6, 2) := by decide +kernel
theorem dX6_layOrder_61 : decode cX6_layOrder 61 = .ok (.iload 6, 2) := by decide +kernel
theorem dX6_layOrder_63 : decode cX6_layOrder 63 = .ok (.ifCond .eq 29, 3) := by decide +kernel
theorem dX6_layOrder_66 : decode cX6_layOrder 66 = .ok (.iload 4, 2) := by decide +kernel
theorem dX6_layOrder_68 : decode cX6_layOrder 68 = .ok (.iconst (-1), 1) := by decide +kernel
theorem dX6_layOrder_69 : decode cX6_layOrder 69 = .ok (.if_icmp .eq 18, 3) := by decide +kernel
theorem dX6_layOrder_72 : decode cX6_layOrder 72 = .ok (.aload_n 0, 1) := by decide +kernel
theorem dX6_layOrder_73 : decode cX6_layOrder 73 = .ok (.iload 5, 2) := by decide +kernel
theorem dX6_layOrder_75 : decode cX6_layOrder 75 = .ok (.invokevirtual 77, 3) := by decide +kernel
theorem dX6_layOrder_78 : decode cX6_layOrder 78 = .ok (.aload_n 0, 1) := by decide +kernel
theorem dX6_layOrder_79 : decode cX6_layOrder 79 = .ok (.iload 4, 2) := by decide +kernel
theorem dX6_layOrder_81 : decode cX6_layOrder 81 = .ok (.invokevirtual 77, 3) := by decide +kernel
theorem dX6_layOrder_84 : decode cX6_layOrder 84 = .ok (.if_icmp .le 8, 3) := by decide +kernel
theorem dX6_layOrder_87 : decode cX6_layOrder 87 = .ok (.iload 5, 2) := by decide +kernel
theorem dX6_layOrder_89 : decode cX6_layOrder 89 = .ok (.goto 5, 3) := by decide +kernel
theorem dX6_layOrder_92 : decode cX6_layOrder 92 = .ok (.iload 4, 2) := by decide +kernel
theorem dX6_layOrder_94 : decode cX6_layOrder 94 = .ok (.istore 4, 2) := by decide +kernel
theorem dX6_layOrder_96 : decode cX6_layOrder 96 = .ok (.iinc 5 1, 3) := by decide +kernel
theorem dX6_layOrder_99 : decode cX6_layOrder 99 = .ok (.goto (-74), 3) := by decide +kernel
theorem dX6_layOrder_102 : decode cX6_layOrder 102 = .ok (.iload 4, 2) := by decide +kernel
theorem dX6_layOrder_104 : decode cX6_layOrder 104 = .ok (.iconst (-1), 1) := by decide +kernel
theorem dX6_layOrder_105 : decode cX6_layOrder 105 = .ok (.if_icmp .eq 7, 3) := by decide +kernel
theorem dX6_layOrder_108 : decode cX6_layOrder 108 = .ok (.iconst 1, 1) := by decide +kernel
theorem dX6_layOrder_109 : decode cX6_layOrder 109 = .ok (.goto 4, 3) := by decide +kernel
theorem dX6_layOrder_112 : decode cX6_layOrder 112 = .ok (.iconst 0, 1) := by decide +kernel
theorem dX6_layOrder_113 : decode cX6_layOrder 113 = .ok (.istore_n 3, 1) := by decide +kernel
theorem dX6_layOrder_114 : decode cX6_layOrder 114 = .ok (.iload_n 3, 1) := by decide +kernel
theorem dX6_layOrder_115 : decode cX6_layOrder 115 = .ok (.ifCond .eq 31, 3) := by decide +kernel
theorem dX6_layOrder_118 : decode cX6_layOrder 118 = .ok (.aload_n 0, 1) := by decide +kernel
theorem dX6_layOrder_119 : decode cX6_layOrder 119 = .ok (.getfield 22, 3) := by decide +kernel
theorem dX6_layOrder_122 : decode cX6_layOrder 122 = .ok (.aload_n 0, 1) := by decide +kernel
theorem dX6_layOrder_123 : decode cX6_layOrder 123 = .ok (.getfield 74, 3) := by decide +kernel
theorem dX6_layOrder_126 : decode cX6_layOrder 126 = .ok (.iload 4, 2) := by decide +kernel
theorem dX6_layOrder_128 : decode cX6_layOrder 128 = .ok (.iastore, 1) := by decide +kernel
theorem dX6_layOrder_129 : decode cX6_layOrder 129 = .ok (.aload_n 0, 1) := by decide +kernel
theorem dX6_layOrder_130 : decode cX6_layOrder 130 = .ok (.dup, 1) := by decide +kernel
theorem dX6_layOrder_131 : decode cX6_layOrder 131 = .ok (.getfield 74, 3) := by decide +kernel
theorem dX6_layOrder_134 : decode cX6_layOrder 134 = .ok (.iconst 1, 1) := by decide +kernel
theorem dX6_layOrder_135 : decode cX6_layOrder 135 = .ok (.iadd, 1) := by decide +kernel
theorem dX6_layOrder_136 : decode cX6_layOrder 136 = .ok (.putfield 74, 3) := by decide +kernel
theorem dX6_layOrder_139 : decode cX6_layOrder 139 = .ok (.iload_n 2, 1) := by decide +kernel
theorem dX6_layOrder_140 : decode cX6_layOrder 140 = .ok (.iconst 1, 1) := by decide +kernel
theorem dX6_layOrder_141 : decode cX6_layOrder 141 = .ok (.iload 4, 2) := by decide +kernel
theorem dX6_layOrder_143 : decode cX6_layOrder 143 = .ok (.ishl, 1) := by decide +kernel
theorem dX6_layOrder_144 : decode cX6_layOrder 144 = .ok (.ior, 1) := by decide +kernel
theorem dX6_layOrder_145 : decode cX6_layOrder 145 = .ok (.istore_n 2, 1) := by decide +kernel
theorem dX6_layOrder_146 : decode cX6_layOrder 146 = .ok (.goto (-131), 3) := by decide +kernel
theorem dX6_layOrder_149 : decode cX6_layOrder 149 = .ok (.return_, 1) := by decide +kernel
theorem dX6_callBack_0 : decode cX6_callBack 0 = .ok (.iload_n 2, 1) := by decide +kernel
theorem dX6_callBack_1 : decode cX6_callBack 1 = .ok (.istore_n 3, 1) := by decide +kernel
theorem dX6_callBack_2 : decode cX6_callBack 2 = .ok (.iconst 0, 1) := by decide +kernel
theorem dX6_callBack_3 : decode cX6_callBack 3 = .ok (.istore 4, 2) := by decide +kernel
theorem dX6_callBack_5 : decode cX6_callBack 5 = .ok (.iload 4, 2) := by decide +kernel
theorem dX6_callBack_7 : decode cX6_callBack 7 = .ok (.aload_n 0, 1) := by decide +kernel
theorem dX6_callBack_8 : decode cX6_callBack 8 = .ok (.getfield 7, 3) := by decide +kernel
theorem dX6_callBack_11 : decode cX6_callBack 11 = .ok (.iconst 1, 1) := by decide +kernel
theorem dX6_callBack_12 : decode cX6_callBack 12 = .ok (.iaload, 1) := by decide +kernel
theorem dX6_callBack_13 : decode cX6_callBack 13 = .ok (.if_icmp .ge 140, 3) := by decide +kernel
theorem dX6_callBack_16 : decode cX6_callBack 16 = .ok (.iload_n 3, 1) := by decide +kernel
theorem dX6_callBack_17 : decode cX6_callBack 17 = .ok (.ifCond .le 136, 3) := by decide +kernel
theorem dX6_callBack_20 : decode cX6_callBack 20 = .ok (.iconst 0, 1) := by decide +kernel
theorem dX6_callBack_21 : decode cX6_callBack 21 = .ok (.istore 5, 2) := by decide +kernel
theorem dX6_callBack_23 : decode cX6_callBack 23 = .ok (.aload_n 0, 1) := by decide +kernel
theorem dX6_callBack_24 : decode cX6_callBack 24 = .ok (.getfield 7, 3) := by decide +kernel
theorem dX6_callBack_27 : decode cX6_callBack 27 = .ok (.iload 4, 2) := by decide +kernel
theorem dX6_callBack_29 : decode cX6_callBack 29 = .ok (.invokestatic 50, 3) := by decide +kernel
theorem dX6_callBack_32 : decode cX6_callBack 32 = .ok (.iaload, 1) := by decide +kernel
theorem dX6_callBack_33 : decode cX6_callBack 33 = .ok (.iload_n 1, 1) := by decide +kernel
theorem dX6_callBack_34 : decode cX6_callBack 34 = .ok (.if_icmp .ne 101, 3) := by decide +kernel
theorem dX6_callBack_37 : decode cX6_callBack 37 = .ok (.aload_n 0, 1) := by decide +kernel
theorem dX6_callBack_38 : decode cX6_callBack 38 = .ok (.getfield 7, 3) := by decide +kernel
theorem dX6_callBack_41 : decode cX6_callBack 41 = .ok (.iload 4, 2) := by decide +kernel
theorem dX6_callBack_43 : decode cX6_callBack 43 = .ok (.invokestatic 50, 3) := by decide +kernel
theorem dX6_callBack_46 : decode cX6_callBack 46 = .ok (.iconst 1, 1) := by decide +kernel
theorem dX6_callBack_47 : decode cX6_callBack 47 = .ok (.iadd, 1) := by decide +kernel
theorem dX6_callBack_48 : decode cX6_callBack 48 = .ok (.iaload, 1) := by decide +kernel
theorem dX6_callBack_49 : decode cX6_callBack 49 = .ok (.invokestatic 39, 3) := by decide +kernel
theorem dX6_callBack_52 : decode cX6_callBack 52 = .ok (.istore 6, 2) := by decide +kernel
theorem dX6_callBack_54 : decode cX6_callBack 54 = .ok (.iload_n 3, 1) := by decide +kernel
theorem dX6_callBack_55 : decode cX6_callBack 55 = .ok (.aload_n 0, 1) := by decide +kernel
theorem dX6_callBack_56 : decode cX6_callBack 56 = .ok (.getfield 7, 3) := by decide +kernel
theorem dX6_callBack_59 : decode cX6_callBack 59 = .ok (.iload 4, 2) := by decide +kernel
theorem dX6_callBack_61 : decode cX6_callBack 61 = .ok (.invokestatic 50, 3) := by decide +kernel
theorem dX6_callBack_64 : decode cX6_callBack 64 = .ok (.iconst 2, 1) := by decide +kernel
theorem dX6_callBack_65 : decode cX6_callBack 65 = .ok (.iadd, 1) := by decide +kernel
theorem dX6_callBack_66 : decode cX6_callBack 66 = .ok (.iaload, 1) := by decide +kernel
theorem dX6_callBack_67 : decode cX6_callBack 67 = .ok (.aload_n 0, 1) := by decide +kernel
theorem dX6_callBack_68 : decode cX6_callBack 68 = .ok (.getfield 7, 3) := by decide +kernel
theorem dX6_callBack_71 : decode cX6_callBack 71 = .ok (.iload 6, 2) := by decide +kernel
theorem dX6_callBack_73 : decode cX6_callBack 73 = .ok (.iconst 2, 1) := by decide +kernel
theorem dX6_callBack_74 : decode cX6_callBack 74 = .ok (.iadd, 1) := by decide +kernel
theorem dX6_callBack_75 : decode cX6_callBack 75 = .ok (.iaload, 1) := by decide +kernel
theorem dX6_callBack_76 : decode cX6_callBack 76 = .ok (.invokestatic 61, 3) := by decide +kernel
theorem dX6_callBack_79 : decode cX6_callBack 79 = .ok (.invokestatic 61, 3) := by decide +kernel
theorem dX6_callBack_82 : decode cX6_callBack 82 = .ok (.istore 7, 2) := by decide +kernel
theorem dX6_callBack_84 : decode cX6_callBack 84 = .ok (.iload 7, 2) := by decide +kernel
theorem dX6_callBack_86 : decode cX6_callBack 86 = .ok (.aload_n 0, 1) := by decide +kernel
theorem dX6_callBack_87 : decode cX6_callBack 87 = .ok (.getfield 7, 3) := by decide +kernel
theorem dX6_callBack_90 : decode cX6_callBack 90 = .ok (.iload 4, 2) := by decide +kernel
theorem dX6_callBack_92 : decode cX6_callBack 92 = .ok (.invokestatic 50, 3) := by decide +kernel
theorem dX6_callBack_95 : decode cX6_callBack 95 = .ok (.iconst 2, 1) := by decide +kernel
theorem dX6_callBack_96 : decode cX6_callBack 96 = .ok (.iadd, 1) := by decide +kernel
theorem dX6_callBack_97 : decode cX6_callBack 97 = .ok (.iaload, 1) := by decide +kernel
theorem dX6_callBack_98 : decode cX6_callBack 98 = .ok (.if_icmp .ne 7, 3) := by decide +kernel
theorem dX6_callBack_101 : decode cX6_callBack 101 = .ok (.iconst 1, 1) := by decide +kernel
theorem dX6_callBack_102 : decode cX6_callBack 102 = .ok (.goto 4, 3) := by decide +kernel
theorem dX6_callBack_105 : decode cX6_callBack 105 = .ok (.iconst 0, 1) := by decide +kernel
theorem dX6_callBack_106 : decode cX6_callBack 106 = .ok (.istore 5, 2) := by decide +kernel
theorem dX6_callBack_108 : decode cX6_callBack 108 = .ok (.aload_n 0, 1) := by decide +kernel
theorem dX6_callBack_109 : decode cX6_callBack 109 = .ok (.getfield 7, 3) := by decide +kernel
theorem dX6_callBack_112 : decode cX6_callBack 112 = .ok (.iload 6, 2) := by decide +kernel
theorem dX6_callBack_114 : decode cX6_callBack 114 = .ok (.iconst 2, 1) := by decide +kernel
theorem dX6_callBack_115 : decode cX6_callBack 115 = .ok (.iadd, 1) := by decide +kernel
theorem dX6_callBack_116 : decode cX6_callBack 116 = .ok (.dup2, 1) := by decide +kernel
theorem dX6_callBack_117 : decode cX6_callBack 117 = .ok (.iaload, 1) := by decide +kernel
theorem dX6_callBack_118 : decode cX6_callBack 118 = .ok (.iload 7, 2) := by decide +kernel
theorem dX6_callBack_120 : decode cX6_callBack 120 = .ok (.isub, 1) := by decide +kernel
theorem dX6_callBack_121 : decode cX6_callBack 121 = .ok (.iastore, 1) := by decide +kernel
theorem dX6_callBack_122 : decode cX6_callBack 122 = .ok (.iload_n 3, 1) := by decide +kernel
theorem dX6_callBack_123 : decode cX6_callBack 123 = .ok (.iload 7, 2) := by decide +kernel
theorem dX6_callBack_125 : decode cX6_callBack 125 = .ok (.isub, 1) := by decide +kernel
theorem dX6_callBack_126 : decode cX6_callBack 126 = .ok (.istore_n 3, 1) := by decide +kernel
theorem dX6_callBack_127 : decode cX6_callBack 127 = .ok (.aload_n 0, 1) := by decide +kernel
theorem dX6_callBack_128 : decode cX6_callBack 128 = .ok (.iload 4, 2) := by decide +kernel
theorem dX6_callBack_130 : decode cX6_callBack 130 = .ok (.iload 7, 2) := by decide +kernel
theorem dX6_callBack_132 : decode cX6_callBack 132 = .ok (.invokevirtual 64, 3) := by decide +kernel
theorem dX6_callBack_135 : decode cX6_callBack 135 = .ok (.iload 4, 2) := by decide +kernel
theorem dX6_callBack_137 : decode cX6_callBack 137 = .ok (.iload 5, 2) := by decide +kernel
theorem dX6_callBack_139 : decode cX6_callBack 139 = .ok (.ifCond .eq 7, 3) := by decide +kernel
theorem dX6_callBack_142 : decode cX6_callBack 142 = .ok (.iconst 0, 1) := by decide +kernel
theorem dX6_callBack_143 : decode cX6_callBack 143 = .ok (.goto 4, 3) := by decide +kernel
theorem dX6_callBack_146 : decode cX6_callBack 146 = .ok (.iconst 1, 1) := by decide +kernel
theorem dX6_callBack_147 : decode cX6_callBack 147 = .ok (.iadd, 1) := by decide +kernel
theorem dX6_callBack_148 : decode cX6_callBack 148 = .ok (.istore 4, 2) := by decide +kernel
theorem dX6_callBack_150 : decode cX6_callBack 150 = .ok (.goto (-145), 3) := by decide +kernel
theorem dX6_callBack_153 : decode cX6_callBack 153 = .ok (.aload_n 0, 1) := by decide +kernel
theorem dX6_callBack_154 : decode cX6_callBack 154 = .ok (.iload_n 2, 1) := by decide +kernel
theorem dX6_callBack_155 : decode cX6_callBack 155 = .ok (.iload_n 3, 1) := by decide +kernel
theorem dX6_callBack_156 : decode cX6_callBack 156 = .ok (.isub, 1) := by decide +kernel
theorem dX6_callBack_157 : decode cX6_callBack 157 = .ok (.putfield 80, 3) := by decide +kernel
theorem dX6_callBack_160 : decode cX6_callBack 160 = .ok (.return_, 1) := by decide +kernel
theorem dX6_borrow_0 : decode cX6_borrow 0 = .ok (.iload_n 2, 1) := by decide +kernel
theorem dX6_borrow_1 : decode cX6_borrow 1 = .ok (.istore_n 3, 1) := by decide +kernel
theorem dX6_borrow_2 : decode cX6_borrow 2 = .ok (.aload_n 0, 1) := by decide +kernel
theorem dX6_borrow_3 : decode cX6_borrow 3 = .ok (.iload_n 1, 1) := by decide +kernel
theorem dX6_borrow_4 : decode cX6_borrow 4 = .ok (.invokevirtual 83, 3) := by decide +kernel
theorem dX6_borrow_7 : decode cX6_borrow 7 = .ok (.iconst 0, 1) := by decide +kernel
theorem dX6_borrow_8 : decode cX6_borrow 8 = .ok (.istore 4, 2) := by decide +kernel
theorem dX6_borrow_10 : decode cX6_borrow 10 = .ok (.iload 4, 2) := by decide +kernel
theorem dX6_borrow_12 : decode cX6_borrow 12 = .ok (.aload_n 0, 1) := by decide +kernel
theorem dX6_borrow_13 : decode cX6_borrow 13 = .ok (.getfield 74, 3) := by decide +kernel
theorem dX6_borrow_16 : decode cX6_borrow 16 = .ok (.if_icmp .ge 71, 3) := by decide +kernel
theorem dX6_borrow_19 : decode cX6_borrow 19 = .ok (.iload_n 3, 1) := by decide +kernel
theorem dX6_borrow_20 : decode cX6_borrow 20 = .ok (.ifCond .le 67, 3) := by decide +kernel
theorem dX6_borrow_23 : decode cX6_borrow 23 = .ok (.iload_n 3, 1) := by decide +kernel
theorem dX6_borrow_24 : decode cX6_borrow 24 = .ok (.aload_n 0, 1) := by decide +kernel
theorem dX6_borrow_25 : decode cX6_borrow 25 = .ok (.aload_n 0, 1) := by decide +kernel
theorem dX6_borrow_26 : decode cX6_borrow 26 = .ok (.getfield 22, 3) := by decide +kernel
theorem dX6_borrow_29 : decode cX6_borrow 29 = .ok (.iload 4, 2) := by decide +kernel
theorem dX6_borrow_31 : decode cX6_borrow 31 = .ok (.iaload, 1) := by decide +kernel
theorem dX6_borrow_32 : decode cX6_borrow 32 = .ok (.invokevirtual 68, 3) := by decide +kernel
theorem dX6_borrow_35 : decode cX6_borrow 35 = .ok (.invokestatic 61, 3) := by decide +kernel
theorem dX6_borrow_38 : decode cX6_borrow 38 = .ok (.istore 5, 2) := by decide +kernel
theorem dX6_borrow_40 : decode cX6_borrow 40 = .ok (.aload_n 0, 1) := by decide +kernel
theorem dX6_borrow_41 : decode cX6_borrow 41 = .ok (.aload_n 0, 1) := by decide +kernel
theorem dX6_borrow_42 : decode cX6_borrow 42 = .ok (.getfield 22, 3) := by decide +kernel
theorem dX6_borrow_45 : decode cX6_borrow 45 = .ok (.iload 4, 2) := by decide +kernel
theorem dX6_borrow_47 : decode cX6_borrow 47 = .ok (.iaload, 1) := by decide +kernel
theorem dX6_borrow_48 : decode cX6_borrow 48 = .ok (.iload_n 1, 1) := by decide +kernel
theorem dX6_borrow_49 : decode cX6_borrow 49 = .ok (.iload 5, 2) := by decide +kernel
theorem dX6_borrow_51 : decode cX6_borrow 51 = .ok (.invokevirtual 86, 3) := by decide +kernel
theorem dX6_borrow_54 : decode cX6_borrow 54 = .ok (.aload_n 0, 1) := by decide +kernel
theorem dX6_borrow_55 : decode cX6_borrow 55 = .ok (.getfield 7, 3) := by decide +kernel
theorem dX6_borrow_58 : decode cX6_borrow 58 = .ok (.aload_n 0, 1) := by decide +kernel
theorem dX6_borrow_59 : decode cX6_borrow 59 = .ok (.getfield 22, 3) := by decide +kernel
theorem dX6_borrow_62 : decode cX6_borrow 62 = .ok (.iload 4, 2) := by decide +kernel
theorem dX6_borrow_64 : decode cX6_borrow 64 = .ok (.iaload, 1) := by decide +kernel
theorem dX6_borrow_65 : decode cX6_borrow 65 = .ok (.invokestatic 39, 3) := by decide +kernel
theorem dX6_borrow_68 : decode cX6_borrow 68 = .ok (.iconst 2, 1) := by decide +kernel
theorem dX6_borrow_69 : decode cX6_borrow 69 = .ok (.iadd, 1) := by decide +kernel
theorem dX6_borrow_70 : decode cX6_borrow 70 = .ok (.dup2, 1) := by decide +kernel
theorem dX6_borrow_71 : decode cX6_borrow 71 = .ok (.iaload, 1) := by decide +kernel
theorem dX6_borrow_72 : decode cX6_borrow 72 = .ok (.iload 5, 2) := by decide +kernel
theorem dX6_borrow_74 : decode cX6_borrow 74 = .ok (.isub, 1) := by decide +kernel
theorem dX6_borrow_75 : decode cX6_borrow 75 = .ok (.iastore, 1) := by decide +kernel
theorem dX6_borrow_76 : decode cX6_borrow 76 = .ok (.iload_n 3, 1) := by decide +kernel
theorem dX6_borrow_77 : decode cX6_borrow 77 = .ok (.iload 5, 2) := by decide +kernel
theorem dX6_borrow_79 : decode cX6_borrow 79 = .ok (.isub, 1) := by decide +kernel
theorem dX6_borrow_80 : decode cX6_borrow 80 = .ok (.istore_n 3, 1) := by decide +kernel
theorem dX6_borrow_81 : decode cX6_borrow 81 = .ok (.iinc 4 1, 3) := by decide +kernel
theorem dX6_borrow_84 : decode cX6_borrow 84 = .ok (.goto (-74), 3) := by decide +kernel
theorem dX6_borrow_87 : decode cX6_borrow 87 = .ok (.aload_n 0, 1) := by decide +kernel
theorem dX6_borrow_88 : decode cX6_borrow 88 = .ok (.iload_n 2, 1) := by decide +kernel
theorem dX6_borrow_89 : decode cX6_borrow 89 = .ok (.iload_n 3, 1) := by decide +kernel
theorem dX6_borrow_90 : decode cX6_borrow 90 = .ok (.isub, 1) := by decide +kernel
theorem dX6_borrow_91 : decode cX6_borrow 91 = .ok (.putfield 90, 3) := by decide +kernel
theorem dX6_borrow_94 : decode cX6_borrow 94 = .ok (.aload_n 0, 1) := by decide +kernel
theorem dX6_borrow_95 : decode cX6_borrow 95 = .ok (.iload_n 3, 1) := by decide +kernel
theorem dX6_borrow_96 : decode cX6_borrow 96 = .ok (.putfield 93, 3) := by decide +kernel
theorem dX6_borrow_99 : decode cX6_borrow 99 = .ok (.return_, 1) := by decide +kernel
theorem dX6_charge_0 : decode cX6_charge 0 = .ok (.iload_n 1, 1) := by decide +kernel
theorem dX6_charge_1 : decode cX6_charge 1 = .ok (.invokestatic 39, 3) := by decide +kernel
theorem dX6_charge_4 : decode cX6_charge 4 = .ok (.istore_n 3, 1) := by decide +kernel
theorem dX6_charge_5 : decode cX6_charge 5 = .ok (.aload_n 0, 1) := by decide +kernel
theorem dX6_charge_6 : decode cX6_charge 6 = .ok (.iload_n 2, 1) := by decide +kernel
theorem dX6_charge_7 : decode cX6_charge 7 = .ok (.aload_n 0, 1) := by decide +kernel
theorem dX6_charge_8 : decode cX6_charge 8 = .ok (.getfield 7, 3) := by decide +kernel
theorem dX6_charge_11 : decode cX6_charge 11 = .ok (.iload_n 3, 1) := by decide +kernel
theorem dX6_charge_12 : decode cX6_charge 12 = .ok (.iconst 2, 1) := by decide +kernel
theorem dX6_charge_13 : decode cX6_charge 13 = .ok (.iadd, 1) := by decide +kernel
theorem dX6_charge_14 : decode cX6_charge 14 = .ok (.iaload, 1) := by decide +kernel
theorem dX6_charge_15 : decode cX6_charge 15 = .ok (.invokestatic 61, 3) := by decide +kernel
theorem dX6_charge_18 : decode cX6_charge 18 = .ok (.putfield 96, 3) := by decide +kernel
theorem dX6_charge_21 : decode cX6_charge 21 = .ok (.aload_n 0, 1) := by decide +kernel
theorem dX6_charge_22 : decode cX6_charge 22 = .ok (.getfield 7, 3) := by decide +kernel
theorem dX6_charge_25 : decode cX6_charge 25 = .ok (.iload_n 3, 1) := by decide +kernel
theorem dX6_charge_26 : decode cX6_charge 26 = .ok (.iconst 2, 1) := by decide +kernel
theorem dX6_charge_27 : decode cX6_charge 27 = .ok (.iadd, 1) := by decide +kernel
theorem dX6_charge_28 : decode cX6_charge 28 = .ok (.dup2, 1) := by decide +kernel
theorem dX6_charge_29 : decode cX6_charge 29 = .ok (.iaload, 1) := by decide +kernel
theorem dX6_charge_30 : decode cX6_charge 30 = .ok (.aload_n 0, 1) := by decide +kernel
theorem dX6_charge_31 : decode cX6_charge 31 = .ok (.getfield 96, 3) := by decide +kernel
theorem dX6_charge_34 : decode cX6_charge 34 = .ok (.isub, 1) := by decide +kernel
theorem dX6_charge_35 : decode cX6_charge 35 = .ok (.iastore, 1) := by decide +kernel
theorem dX6_charge_36 : decode cX6_charge 36 = .ok (.aload_n 0, 1) := by decide +kernel
theorem dX6_charge_37 : decode cX6_charge 37 = .ok (.iload_n 1, 1) := by decide +kernel
theorem dX6_charge_38 : decode cX6_charge 38 = .ok (.iload_n 2, 1) := by decide +kernel
theorem dX6_charge_39 : decode cX6_charge 39 = .ok (.aload_n 0, 1) := by decide +kernel
theorem dX6_charge_40 : decode cX6_charge 40 = .ok (.getfield 96, 3) := by decide +kernel
theorem dX6_charge_43 : decode cX6_charge 43 = .ok (.isub, 1) := by decide +kernel
theorem dX6_charge_44 : decode cX6_charge 44 = .ok (.invokevirtual 99, 3) := by decide +kernel
theorem dX6_charge_47 : decode cX6_charge 47 = .ok (.aload_n 0, 1) := by decide +kernel
theorem dX6_charge_48 : decode cX6_charge 48 = .ok (.iload_n 1, 1) := by decide +kernel
theorem dX6_charge_49 : decode cX6_charge 49 = .ok (.iload_n 2, 1) := by decide +kernel
theorem dX6_charge_50 : decode cX6_charge 50 = .ok (.aload_n 0, 1) := by decide +kernel
theorem dX6_charge_51 : decode cX6_charge 51 = .ok (.getfield 96, 3) := by decide +kernel
theorem dX6_charge_54 : decode cX6_charge 54 = .ok (.isub, 1) := by decide +kernel
theorem dX6_charge_55 : decode cX6_charge 55 = .ok (.aload_n 0, 1) := by decide +kernel
theorem dX6_charge_56 : decode cX6_charge 56 = .ok (.getfield 80, 3) := by decide +kernel
theorem dX6_charge_59 : decode cX6_charge 59 = .ok (.isub, 1) := by decide +kernel
theorem dX6_charge_60 : decode cX6_charge 60 = .ok (.invokevirtual 102, 3) := by decide +kernel
theorem dX6_charge_63 : decode cX6_charge 63 = .ok (.aload_n 0, 1) := by decide +kernel
theorem dX6_charge_64 : decode cX6_charge 64 = .ok (.getfield 7, 3) := by decide +kernel
theorem dX6_charge_67 : decode cX6_charge 67 = .ok (.iload_n 3, 1) := by decide +kernel
theorem dX6_charge_68 : decode cX6_charge 68 = .ok (.iconst 3, 1) := by decide +kernel
theorem dX6_charge_69 : decode cX6_charge 69 = .ok (.iadd, 1) := by decide +kernel
theorem dX6_charge_70 : decode cX6_charge 70 = .ok (.dup2, 1) := by decide +kernel
theorem dX6_charge_71 : decode cX6_charge 71 = .ok (.iaload, 1) := by decide +kernel
theorem dX6_charge_72 : decode cX6_charge 72 = .ok (.aload_n 0, 1) := by decide +kernel
theorem dX6_charge_73 : decode cX6_charge 73 = .ok (.getfield 96, 3) := by decide +kernel
theorem dX6_charge_76 : decode cX6_charge 76 = .ok (.aload_n 0, 1) := by decide +kernel
theorem dX6_charge_77 : decode cX6_charge 77 = .ok (.getfield 80, 3) := by decide +kernel
theorem dX6_charge_80 : decode cX6_charge 80 = .ok (.iadd, 1) := by decide +kernel
theorem dX6_charge_81 : decode cX6_charge 81 = .ok (.aload_n 0, 1) := by decide +kernel
theorem dX6_charge_82 : decode cX6_charge 82 = .ok (.getfield 90, 3) := by decide +kernel
theorem dX6_charge_85 : decode cX6_charge 85 = .ok (.iadd, 1) := by decide +kernel
theorem dX6_charge_86 : decode cX6_charge 86 = .ok (.iadd, 1) := by decide +kernel
theorem dX6_charge_87 : decode cX6_charge 87 = .ok (.iastore, 1) := by decide +kernel
theorem dX6_charge_88 : decode cX6_charge 88 = .ok (.aload_n 0, 1) := by decide +kernel
theorem dX6_charge_89 : decode cX6_charge 89 = .ok (.getfield 7, 3) := by decide +kernel
theorem dX6_charge_92 : decode cX6_charge 92 = .ok (.iload_n 3, 1) := by decide +kernel
theorem dX6_charge_93 : decode cX6_charge 93 = .ok (.iconst 4, 1) := by decide +kernel
theorem dX6_charge_94 : decode cX6_charge 94 = .ok (.iadd, 1) := by decide +kernel
theorem dX6_charge_95 : decode cX6_charge 95 = .ok (.dup2, 1) := by decide +kernel
theorem dX6_charge_96 : decode cX6_charge 96 = .ok (.iaload, 1) := by decide +kernel
theorem dX6_charge_97 : decode cX6_charge 97 = .ok (.aload_n 0, 1) := by decide +kernel
theorem dX6_charge_98 : decode cX6_charge 98 = .ok (.getfield 93, 3) := by decide +kernel
theorem dX6_charge_101 : decode cX6_charge 101 = .ok (.iadd, 1) := by decide +kernel
theorem dX6_charge_102 : decode cX6_charge 102 = .ok (.iastore, 1) := by decide +kernel
theorem dX6_charge_103 : decode cX6_charge 103 = .ok (.return_, 1) := by decide +kernel
theorem dX6_doNow_0 : decode cX6_doNow 0 = .ok (.iload_n 1, 1) := by decide +kernel
theorem dX6_doNow_1 : decode cX6_doNow 1 = .ok (.invokestatic 39, 3) := by decide +kernel
theorem dX6_doNow_4 : decode cX6_doNow 4 = .ok (.istore_n 3, 1) := by decide +kernel
theorem dX6_doNow_5 : decode cX6_doNow 5 = .ok (.aload_n 0, 1) := by decide +kernel
theorem dX6_doNow_6 : decode cX6_doNow 6 = .ok (.getfield 7, 3) := by decide +kernel
theorem dX6_doNow_9 : decode cX6_doNow 9 = .ok (.iload_n 3, 1) := by decide +kernel
theorem dX6_doNow_10 : decode cX6_doNow 10 = .ok (.bipush 6, 2) := by decide +kernel
theorem dX6_doNow_12 : decode cX6_doNow 12 = .ok (.iadd, 1) := by decide +kernel
theorem dX6_doNow_13 : decode cX6_doNow 13 = .ok (.iaload, 1) := by decide +kernel
theorem dX6_doNow_14 : decode cX6_doNow 14 = .ok (.istore 4, 2) := by decide +kernel
theorem dX6_doNow_16 : decode cX6_doNow 16 = .ok (.iload_n 2, 1) := by decide +kernel
theorem dX6_doNow_17 : decode cX6_doNow 17 = .ok (.aload_n 0, 1) := by decide +kernel
theorem dX6_doNow_18 : decode cX6_doNow 18 = .ok (.getfield 7, 3) := by decide +kernel
theorem dX6_doNow_21 : decode cX6_doNow 21 = .ok (.iload_n 3, 1) := by decide +kernel
theorem dX6_doNow_22 : decode cX6_doNow 22 = .ok (.bipush 10, 2) := by decide +kernel
theorem dX6_doNow_24 : decode cX6_doNow 24 = .ok (.iadd, 1) := by decide +kernel
theorem dX6_doNow_25 : decode cX6_doNow 25 = .ok (.iload 4, 2) := by decide +kernel
theorem dX6_doNow_27 : decode cX6_doNow 27 = .ok (.iadd, 1) := by decide +kernel
theorem dX6_doNow_28 : decode cX6_doNow 28 = .ok (.iaload, 1) := by decide +kernel
theorem dX6_doNow_29 : decode cX6_doNow 29 = .ok (.isub, 1) := by decide +kernel
theorem dX6_doNow_30 : decode cX6_doNow 30 = .ok (.istore 5, 2) := by decide +kernel
theorem dX6_doNow_32 : decode cX6_doNow 32 = .ok (.aload_n 0, 1) := by decide +kernel
theorem dX6_doNow_33 : decode cX6_doNow 33 = .ok (.iconst 0, 1) := by decide +kernel
theorem dX6_doNow_34 : decode cX6_doNow 34 = .ok (.putfield 96, 3) := by decide +kernel
theorem dX6_doNow_37 : decode cX6_doNow 37 = .ok (.aload_n 0, 1) := by decide +kernel
theorem dX6_doNow_38 : decode cX6_doNow 38 = .ok (.iconst 0, 1) := by decide +kernel
theorem dX6_doNow_39 : decode cX6_doNow 39 = .ok (.putfield 80, 3) := by decide +kernel
theorem dX6_doNow_42 : decode cX6_doNow 42 = .ok (.aload_n 0, 1) := by decide +kernel
theorem dX6_doNow_43 : decode cX6_doNow 43 = .ok (.iconst 0, 1) := by decide +kernel
theorem dX6_doNow_44 : decode cX6_doNow 44 = .ok (.putfield 90, 3) := by decide +kernel
theorem dX6_doNow_47 : decode cX6_doNow 47 = .ok (.aload_n 0, 1) := by decide +kernel
theorem dX6_doNow_48 : decode cX6_doNow 48 = .ok (.iconst 0, 1) := by decide +kernel
theorem dX6_doNow_49 : decode cX6_doNow 49 = .ok (.putfield 93, 3) := by decide +kernel
theorem dX6_doNow_52 : decode cX6_doNow 52 = .ok (.aload_n 0, 1) := by decide +kernel
theorem dX6_doNow_53 : decode cX6_doNow 53 = .ok (.getfield 7, 3) := by decide +kernel
theorem dX6_doNow_56 : decode cX6_doNow 56 = .ok (.iload_n 3, 1) := by decide +kernel
theorem dX6_doNow_57 : decode cX6_doNow 57 = .ok (.bipush 18, 2) := by decide +kernel
theorem dX6_doNow_59 : decode cX6_doNow 59 = .ok (.iadd, 1) := by decide +kernel
theorem dX6_doNow_60 : decode cX6_doNow 60 = .ok (.iload 4, 2) := by decide +kernel
theorem dX6_doNow_62 : decode cX6_doNow 62 = .ok (.iadd, 1) := by decide +kernel
theorem dX6_doNow_63 : decode cX6_doNow 63 = .ok (.iload_n 2, 1) := by decide +kernel
theorem dX6_doNow_64 : decode cX6_doNow 64 = .ok (.iastore, 1) := by decide +kernel
theorem dX6_doNow_65 : decode cX6_doNow 65 = .ok (.iload 5, 2) := by decide +kernel
theorem dX6_doNow_67 : decode cX6_doNow 67 = .ok (.ifCond .le 13, 3) := by decide +kernel
theorem dX6_doNow_70 : decode cX6_doNow 70 = .ok (.aload_n 0, 1) := by decide +kernel
theorem dX6_doNow_71 : decode cX6_doNow 71 = .ok (.iload_n 1, 1) := by decide +kernel
theorem dX6_doNow_72 : decode cX6_doNow 72 = .ok (.iload 5, 2) := by decide +kernel
theorem dX6_doNow_74 : decode cX6_doNow 74 = .ok (.invokevirtual 105, 3) := by decide +kernel
theorem dX6_doNow_77 : decode cX6_doNow 77 = .ok (.goto 37, 3) := by decide +kernel
theorem dX6_doNow_80 : decode cX6_doNow 80 = .ok (.aload_n 0, 1) := by decide +kernel
theorem dX6_doNow_81 : decode cX6_doNow 81 = .ok (.getfield 7, 3) := by decide +kernel
theorem dX6_doNow_84 : decode cX6_doNow 84 = .ok (.iload_n 3, 1) := by decide +kernel
theorem dX6_doNow_85 : decode cX6_doNow 85 = .ok (.iconst 2, 1) := by decide +kernel
theorem dX6_doNow_86 : decode cX6_doNow 86 = .ok (.iadd, 1) := by decide +kernel
theorem dX6_doNow_87 : decode cX6_doNow 87 = .ok (.dup2, 1) := by decide +kernel
theorem dX6_doNow_88 : decode cX6_doNow 88 = .ok (.iaload, 1) := by decide +kernel
theorem dX6_doNow_89 : decode cX6_doNow 89 = .ok (.iload 5, 2) := by decide +kernel
theorem dX6_doNow_91 : decode cX6_doNow 91 = .ok (.isub, 1) := by decide +kernel
theorem dX6_doNow_92 : decode cX6_doNow 92 = .ok (.iastore, 1) := by decide +kernel
theorem dX6_doNow_93 : decode cX6_doNow 93 = .ok (.aload_n 0, 1) := by decide +kernel
theorem dX6_doNow_94 : decode cX6_doNow 94 = .ok (.getfield 7, 3) := by decide +kernel
theorem dX6_doNow_97 : decode cX6_doNow 97 = .ok (.iload_n 3, 1) := by decide +kernel
theorem dX6_doNow_98 : decode cX6_doNow 98 = .ok (.iconst 3, 1) := by decide +kernel
theorem dX6_doNow_99 : decode cX6_doNow 99 = .ok (.iadd, 1) := by decide +kernel
theorem dX6_doNow_100 : decode cX6_doNow 100 = .ok (.dup2, 1) := by decide +kernel
theorem dX6_doNow_101 : decode cX6_doNow 101 = .ok (.iaload, 1) := by decide +kernel
theorem dX6_doNow_102 : decode cX6_doNow 102 = .ok (.iload 5, 2) := by decide +kernel
theorem dX6_doNow_104 : decode cX6_doNow 104 = .ok (.iadd, 1) := by decide +kernel
theorem dX6_doNow_105 : decode cX6_doNow 105 = .ok (.iastore, 1) := by decide +kernel
theorem dX6_doNow_106 : decode cX6_doNow 106 = .ok (.aload_n 0, 1) := by decide +kernel
theorem dX6_doNow_107 : decode cX6_doNow 107 = .ok (.iload_n 1, 1) := by decide +kernel
theorem dX6_doNow_108 : decode cX6_doNow 108 = .ok (.iload 5, 2) := by decide +kernel
theorem dX6_doNow_110 : decode cX6_doNow 110 = .ok (.ineg, 1) := by decide +kernel
theorem dX6_doNow_111 : decode cX6_doNow 111 = .ok (.invokevirtual 108, 3) := by decide +kernel
theorem dX6_doNow_114 : decode cX6_doNow 114 = .ok (.aload_n 0, 1) := by decide +kernel
theorem dX6_doNow_115 : decode cX6_doNow 115 = .ok (.getfield 7, 3) := by decide +kernel
theorem dX6_doNow_118 : decode cX6_doNow 118 = .ok (.iload_n 3, 1) := by decide +kernel
theorem dX6_doNow_119 : decode cX6_doNow 119 = .ok (.bipush 26, 2) := by decide +kernel
theorem dX6_doNow_121 : decode cX6_doNow 121 = .ok (.iadd, 1) := by decide +kernel
theorem dX6_doNow_122 : decode cX6_doNow 122 = .ok (.iconst 4, 1) := by decide +kernel
theorem dX6_doNow_123 : decode cX6_doNow 123 = .ok (.iload 4, 2) := by decide +kernel
theorem dX6_doNow_125 : decode cX6_doNow 125 = .ok (.imul, 1) := by decide +kernel
theorem dX6_doNow_126 : decode cX6_doNow 126 = .ok (.iadd, 1) := by decide +kernel
theorem dX6_doNow_127 : decode cX6_doNow 127 = .ok (.aload_n 0, 1) := by decide +kernel
theorem dX6_doNow_128 : decode cX6_doNow 128 = .ok (.getfield 96, 3) := by decide +kernel
theorem dX6_doNow_131 : decode cX6_doNow 131 = .ok (.iastore, 1) := by decide +kernel
theorem dX6_doNow_132 : decode cX6_doNow 132 = .ok (.aload_n 0, 1) := by decide +kernel
theorem dX6_doNow_133 : decode cX6_doNow 133 = .ok (.getfield 7, 3) := by decide +kernel
theorem dX6_doNow_136 : decode cX6_doNow 136 = .ok (.iload_n 3, 1) := by decide +kernel
theorem dX6_doNow_137 : decode cX6_doNow 137 = .ok (.bipush 26, 2) := by decide +kernel
theorem dX6_doNow_139 : decode cX6_doNow 139 = .ok (.iadd, 1) := by decide +kernel
theorem dX6_doNow_140 : decode cX6_doNow 140 = .ok (.iconst 4, 1) := by decide +kernel
theorem dX6_doNow_141 : decode cX6_doNow 141 = .ok (.iload 4, 2) := by decide +kernel
theorem dX6_doNow_143 : decode cX6_doNow 143 = .ok (.imul, 1) := by decide +kernel
theorem dX6_doNow_144 : decode cX6_doNow 144 = .ok (.iadd, 1) := by decide +kernel
theorem dX6_doNow_145 : decode cX6_doNow 145 = .ok (.iconst 1, 1) := by decide +kernel
theorem dX6_doNow_146 : decode cX6_doNow 146 = .ok (.iadd, 1) := by decide +kernel
theorem dX6_doNow_147 : decode cX6_doNow 147 = .ok (.aload_n 0, 1) := by decide +kernel
theorem dX6_doNow_148 : decode cX6_doNow 148 = .ok (.getfield 80, 3) := by decide +kernel
theorem dX6_doNow_151 : decode cX6_doNow 151 = .ok (.iastore, 1) := by decide +kernel
theorem dX6_doNow_152 : decode cX6_doNow 152 = .ok (.aload_n 0, 1) := by decide +kernel
theorem dX6_doNow_153 : decode cX6_doNow 153 = .ok (.getfield 7, 3) := by decide +kernel
theorem dX6_doNow_156 : decode cX6_doNow 156 = .ok (.iload_n 3, 1) := by decide +kernel
theorem dX6_doNow_157 : decode cX6_doNow 157 = .ok (.bipush 26, 2) := by decide +kernel
theorem dX6_doNow_159 : decode cX6_doNow 159 = .ok (.iadd, 1) := by decide +kernel
theorem dX6_doNow_160 : decode cX6_doNow 160 = .ok (.iconst 4, 1) := by decide +kernel
theorem dX6_doNow_161 : decode cX6_doNow 161 = .ok (.iload 4, 2) := by decide +kernel
theorem dX6_doNow_163 : decode cX6_doNow 163 = .ok (.imul, 1) := by decide +kernel
theorem dX6_doNow_164 : decode cX6_doNow 164 = .ok (.iadd, 1) := by decide +kernel
theorem dX6_doNow_165 : decode cX6_doNow 165 = .ok (.iconst 2, 1) := by decide +kernel
theorem dX6_doNow_166 : decode cX6_doNow 166 = .ok (.iadd, 1) := by decide +kernel
theorem dX6_doNow_167 : decode cX6_doNow 167 = .ok (.aload_n 0, 1) := by decide +kernel
theorem dX6_doNow_168 : decode cX6_doNow 168 = .ok (.getfield 90, 3) := by decide +kernel
theorem dX6_doNow_171 : decode cX6_doNow 171 = .ok (.iastore, 1) := by decide +kernel
theorem dX6_doNow_172 : decode cX6_doNow 172 = .ok (.aload_n 0, 1) := by decide +kernel
theorem dX6_doNow_173 : decode cX6_doNow 173 = .ok (.getfield 7, 3) := by decide +kernel
theorem dX6_doNow_176 : decode cX6_doNow 176 = .ok (.iload_n 3, 1) := by decide +kernel
theorem dX6_doNow_177 : decode cX6_doNow 177 = .ok (.bipush 26, 2) := by decide +kernel
theorem dX6_doNow_179 : decode cX6_doNow 179 = .ok (.iadd, 1) := by decide +kernel
theorem dX6_doNow_180 : decode cX6_doNow 180 = .ok (.iconst 4, 1) := by decide +kernel
theorem dX6_doNow_181 : decode cX6_doNow 181 = .ok (.iload 4, 2) := by decide +kernel
theorem dX6_doNow_183 : decode cX6_doNow 183 = .ok (.imul, 1) := by decide +kernel
theorem dX6_doNow_184 : decode cX6_doNow 184 = .ok (.iadd, 1) := by decide +kernel
theorem dX6_doNow_185 : decode cX6_doNow 185 = .ok (.iconst 3, 1) := by decide +kernel
theorem dX6_doNow_186 : decode cX6_doNow 186 = .ok (.iadd, 1) := by decide +kernel
theorem dX6_doNow_187 : decode cX6_doNow 187 = .ok (.aload_n 0, 1) := by decide +kernel
theorem dX6_doNow_188 : decode cX6_doNow 188 = .ok (.getfield 93, 3) := by decide +kernel
theorem dX6_doNow_191 : decode cX6_doNow 191 = .ok (.iastore, 1) := by decide +kernel
theorem dX6_doNow_192 : decode cX6_doNow 192 = .ok (.aload_n 0, 1) := by decide +kernel
theorem dX6_doNow_193 : decode cX6_doNow 193 = .ok (.getfield 7, 3) := by decide +kernel
theorem dX6_doNow_196 : decode cX6_doNow 196 = .ok (.iload_n 3, 1) := by decide +kernel
theorem dX6_doNow_197 : decode cX6_doNow 197 = .ok (.bipush 6, 2) := by decide +kernel
theorem dX6_doNow_199 : decode cX6_doNow 199 = .ok (.iadd, 1) := by decide +kernel
theorem dX6_doNow_200 : decode cX6_doNow 200 = .ok (.dup2, 1) := by decide +kernel
theorem dX6_doNow_201 : decode cX6_doNow 201 = .ok (.iaload, 1) := by decide +kernel
theorem dX6_doNow_202 : decode cX6_doNow 202 = .ok (.iconst 1, 1) := by decide +kernel
theorem dX6_doNow_203 : decode cX6_doNow 203 = .ok (.iadd, 1) := by decide +kernel
theorem dX6_doNow_204 : decode cX6_doNow 204 = .ok (.iastore, 1) := by decide +kernel
theorem dX6_doNow_205 : decode cX6_doNow 205 = .ok (.aload_n 0, 1) := by decide +kernel
theorem dX6_doNow_206 : decode cX6_doNow 206 = .ok (.iload_n 1, 1) := by decide +kernel
theorem dX6_doNow_207 : decode cX6_doNow 207 = .ok (.invokevirtual 47, 3) := by decide +kernel
theorem dX6_doNow_210 : decode cX6_doNow 210 = .ok (.ifCond .eq 26, 3) := by decide +kernel
theorem dX6_doNow_213 : decode cX6_doNow 213 = .ok (.aload_n 0, 1) := by decide +kernel
theorem dX6_doNow_214 : decode cX6_doNow 214 = .ok (.iload_n 1, 1) := by decide +kernel
theorem dX6_doNow_215 : decode cX6_doNow 215 = .ok (.aload_n 0, 1) := by decide +kernel
theorem dX6_doNow_216 : decode cX6_doNow 216 = .ok (.getfield 7, 3) := by decide +kernel
theorem dX6_doNow_219 : decode cX6_doNow 219 = .ok (.iload_n 3, 1) := by decide +kernel
theorem dX6_doNow_220 : decode cX6_doNow 220 = .ok (.iconst 2, 1) := by decide +kernel
theorem dX6_doNow_221 : decode cX6_doNow 221 = .ok (.iadd, 1) := by decide +kernel
theorem dX6_doNow_222 : decode cX6_doNow 222 = .ok (.iaload, 1) := by decide +kernel
theorem dX6_doNow_223 : decode cX6_doNow 223 = .ok (.aload_n 0, 1) := by decide +kernel
theorem dX6_doNow_224 : decode cX6_doNow 224 = .ok (.getfield 7, 3) := by decide +kernel
theorem dX6_doNow_227 : decode cX6_doNow 227 = .ok (.iconst 5, 1) := by decide +kernel
theorem dX6_doNow_228 : decode cX6_doNow 228 = .ok (.iaload, 1) := by decide +kernel
theorem dX6_doNow_229 : decode cX6_doNow 229 = .ok (.imul, 1) := by decide +kernel
theorem dX6_doNow_230 : decode cX6_doNow 230 = .ok (.bipush 100, 2) := by decide +kernel
theorem dX6_doNow_232 : decode cX6_doNow 232 = .ok (.idiv, 1) := by decide +kernel
theorem dX6_doNow_233 : decode cX6_doNow 233 = .ok (.invokevirtual 108, 3) := by decide +kernel
theorem dX6_doNow_236 : decode cX6_doNow 236 = .ok (.return_, 1) := by decide +kernel
theorem dX6_openNow_0 : decode cX6_openNow 0 = .ok (.aload_n 0, 1) := by decide +kernel
theorem dX6_openNow_1 : decode cX6_openNow 1 = .ok (.getfield 7, 3) := by decide +kernel
theorem dX6_openNow_4 : decode cX6_openNow 4 = .ok (.iconst 0, 1) := by decide +kernel
theorem dX6_openNow_5 : decode cX6_openNow 5 = .ok (.iaload, 1) := by decide +kernel
theorem dX6_openNow_6 : decode cX6_openNow 6 = .ok (.invokestatic 39, 3) := by decide +kernel
theorem dX6_openNow_9 : decode cX6_openNow 9 = .ok (.istore_n 3, 1) := by decide +kernel
theorem dX6_openNow_10 : decode cX6_openNow 10 = .ok (.iconst 0, 1) := by decide +kernel
theorem dX6_openNow_11 : decode cX6_openNow 11 = .ok (.istore 4, 2) := by decide +kernel
theorem dX6_openNow_13 : decode cX6_openNow 13 = .ok (.iload 4, 2) := by decide +kernel
theorem dX6_openNow_15 : decode cX6_openNow 15 = .ok (.bipush 58, 2) := by decide +kernel
theorem dX6_openNow_17 : decode cX6_openNow 17 = .ok (.if_icmp .ge 19, 3) := by decide +kernel
theorem dX6_openNow_20 : decode cX6_openNow 20 = .ok (.aload_n 0, 1) := by decide +kernel
theorem dX6_openNow_21 : decode cX6_openNow 21 = .ok (.getfield 7, 3) := by decide +kernel
theorem dX6_openNow_24 : decode cX6_openNow 24 = .ok (.iload_n 3, 1) := by decide +kernel
theorem dX6_openNow_25 : decode cX6_openNow 25 = .ok (.iload 4, 2) := by decide +kernel
theorem dX6_openNow_27 : decode cX6_openNow 27 = .ok (.iadd, 1) := by decide +kernel
theorem dX6_openNow_28 : decode cX6_openNow 28 = .ok (.iconst 0, 1) := by decide +kernel
theorem dX6_openNow_29 : decode cX6_openNow 29 = .ok (.iastore, 1) := by decide +kernel
theorem dX6_openNow_30 : decode cX6_openNow 30 = .ok (.iinc 4 1, 3) := by decide +kernel
theorem dX6_openNow_33 : decode cX6_openNow 33 = .ok (.goto (-20), 3) := by decide +kernel
theorem dX6_openNow_36 : decode cX6_openNow 36 = .ok (.aload_n 0, 1) := by decide +kernel
theorem dX6_openNow_37 : decode cX6_openNow 37 = .ok (.getfield 7, 3) := by decide +kernel
theorem dX6_openNow_40 : decode cX6_openNow 40 = .ok (.iload_n 3, 1) := by decide +kernel
theorem dX6_openNow_41 : decode cX6_openNow 41 = .ok (.iload_n 1, 1) := by decide +kernel
theorem dX6_openNow_42 : decode cX6_openNow 42 = .ok (.iastore, 1) := by decide +kernel
theorem dX6_openNow_43 : decode cX6_openNow 43 = .ok (.aload_n 0, 1) := by decide +kernel
theorem dX6_openNow_44 : decode cX6_openNow 44 = .ok (.getfield 7, 3) := by decide +kernel
theorem dX6_openNow_47 : decode cX6_openNow 47 = .ok (.iload_n 3, 1) := by decide +kernel
theorem dX6_openNow_48 : decode cX6_openNow 48 = .ok (.iconst 1, 1) := by decide +kernel
theorem dX6_openNow_49 : decode cX6_openNow 49 = .ok (.iadd, 1) := by decide +kernel
theorem dX6_openNow_50 : decode cX6_openNow 50 = .ok (.iload_n 2, 1) := by decide +kernel
theorem dX6_openNow_51 : decode cX6_openNow 51 = .ok (.iastore, 1) := by decide +kernel
theorem dX6_openNow_52 : decode cX6_openNow 52 = .ok (.aload_n 0, 1) := by decide +kernel
theorem dX6_openNow_53 : decode cX6_openNow 53 = .ok (.getfield 7, 3) := by decide +kernel
theorem dX6_openNow_56 : decode cX6_openNow 56 = .ok (.iload_n 3, 1) := by decide +kernel
theorem dX6_openNow_57 : decode cX6_openNow 57 = .ok (.iconst 2, 1) := by decide +kernel
theorem dX6_openNow_58 : decode cX6_openNow 58 = .ok (.iadd, 1) := by decide +kernel
theorem dX6_openNow_59 : decode cX6_openNow 59 = .ok (.iload_n 2, 1) := by decide +kernel
theorem dX6_openNow_60 : decode cX6_openNow 60 = .ok (.iastore, 1) := by decide +kernel
theorem dX6_openNow_61 : decode cX6_openNow 61 = .ok (.aload_n 0, 1) := by decide +kernel
theorem dX6_openNow_62 : decode cX6_openNow 62 = .ok (.getfield 7, 3) := by decide +kernel
theorem dX6_openNow_65 : decode cX6_openNow 65 = .ok (.iload_n 3, 1) := by decide +kernel
theorem dX6_openNow_66 : decode cX6_openNow 66 = .ok (.bipush 7, 2) := by decide +kernel
theorem dX6_openNow_68 : decode cX6_openNow 68 = .ok (.iadd, 1) := by decide +kernel
theorem dX6_openNow_69 : decode cX6_openNow 69 = .ok (.iconst 1, 1) := by decide +kernel
theorem dX6_openNow_70 : decode cX6_openNow 70 = .ok (.iastore, 1) := by decide +kernel
theorem dX6_openNow_71 : decode cX6_openNow 71 = .ok (.aload_n 0, 1) := by decide +kernel
theorem dX6_openNow_72 : decode cX6_openNow 72 = .ok (.getfield 7, 3) := by decide +kernel
theorem dX6_openNow_75 : decode cX6_openNow 75 = .ok (.iconst 0, 1) := by decide +kernel
theorem dX6_openNow_76 : decode cX6_openNow 76 = .ok (.dup2, 1) := by decide +kernel
theorem dX6_openNow_77 : decode cX6_openNow 77 = .ok (.iaload, 1) := by decide +kernel
theorem dX6_openNow_78 : decode cX6_openNow 78 = .ok (.iconst 1, 1) := by decide +kernel
theorem dX6_openNow_79 : decode cX6_openNow 79 = .ok (.iadd, 1) := by decide +kernel
theorem dX6_openNow_80 : decode cX6_openNow 80 = .ok (.iastore, 1) := by decide +kernel
theorem dX6_openNow_81 : decode cX6_openNow 81 = .ok (.return_, 1) := by decide +kernel
theorem dX6_isRank_0 : decode cX6_isRank 0 = .ok (.iload_n 0, 1) := by decide +kernel
theorem dX6_isRank_1 : decode cX6_isRank 1 = .ok (.iconst 1, 1) := by decide +kernel
theorem dX6_isRank_2 : decode cX6_isRank 2 = .ok (.bipush 9, 2) := by decide +kernel
theorem dX6_isRank_4 : decode cX6_isRank 4 = .ok (.invokestatic 35, 3) := by decide +kernel
theorem dX6_isRank_7 : decode cX6_isRank 7 = .ok (.ireturn, 1) := by decide +kernel
theorem dX6_open_0 : decode cX6_open 0 = .ok (.aload_n 0, 1) := by decide +kernel
theorem dX6_open_1 : decode cX6_open 1 = .ok (.iconst 0, 1) := by decide +kernel
theorem dX6_open_2 : decode cX6_open 2 = .ok (.putfield 28, 3) := by decide +kernel
theorem dX6_open_5 : decode cX6_open 5 = .ok (.iload_n 1, 1) := by decide +kernel
theorem dX6_open_6 : decode cX6_open 6 = .ok (.invokestatic 111, 3) := by decide +kernel
theorem dX6_open_9 : decode cX6_open 9 = .ok (.ifCond .eq 13, 3) := by decide +kernel
theorem dX6_open_12 : decode cX6_open 12 = .ok (.iload_n 2, 1) := by decide +kernel
theorem dX6_open_13 : decode cX6_open 13 = .ok (.iconst 0, 1) := by decide +kernel
theorem dX6_open_14 : decode cX6_open 14 = .ok (.bipush 99, 2) := by decide +kernel
theorem dX6_open_16 : decode cX6_open 16 = .ok (.invokestatic 35, 3) := by decide +kernel
theorem dX6_open_19 : decode cX6_open 19 = .ok (.ifCond .ne 9, 3) := by decide +kernel
theorem dX6_open_22 : decode cX6_open 22 = .ok (.aload_n 0, 1) := by decide +kernel
theorem dX6_open_23 : decode cX6_open 23 = .ok (.iconst 1, 1) := by decide +kernel
theorem dX6_open_24 : decode cX6_open 24 = .ok (.invokevirtual 114, 3) := by decide +kernel
theorem dX6_open_27 : decode cX6_open 27 = .ok (.ireturn, 1) := by decide +kernel
theorem dX6_open_28 : decode cX6_open 28 = .ok (.aload_n 0, 1) := by decide +kernel
theorem dX6_open_29 : decode cX6_open 29 = .ok (.getfield 7, 3) := by decide +kernel
theorem dX6_open_32 : decode cX6_open 32 = .ok (.iconst 0, 1) := by decide +kernel
theorem dX6_open_33 : decode cX6_open 33 = .ok (.iaload, 1) := by decide +kernel
theorem dX6_open_34 : decode cX6_open 34 = .ok (.bipush 6, 2) := by decide +kernel
theorem dX6_open_36 : decode cX6_open 36 = .ok (.if_icmp .ne 9, 3) := by decide +kernel
theorem dX6_open_39 : decode cX6_open 39 = .ok (.aload_n 0, 1) := by decide +kernel
theorem dX6_open_40 : decode cX6_open 40 = .ok (.iconst 2, 1) := by decide +kernel
theorem dX6_open_41 : decode cX6_open 41 = .ok (.invokevirtual 114, 3) := by decide +kernel
theorem dX6_open_44 : decode cX6_open 44 = .ok (.ireturn, 1) := by decide +kernel
theorem dX6_open_45 : decode cX6_open 45 = .ok (.aload_n 0, 1) := by decide +kernel
theorem dX6_open_46 : decode cX6_open 46 = .ok (.invokevirtual 117, 3) := by decide +kernel
theorem dX6_open_49 : decode cX6_open 49 = .ok (.aload_n 0, 1) := by decide +kernel
theorem dX6_open_50 : decode cX6_open 50 = .ok (.iload_n 1, 1) := by decide +kernel
theorem dX6_open_51 : decode cX6_open 51 = .ok (.iload_n 2, 1) := by decide +kernel
theorem dX6_open_52 : decode cX6_open 52 = .ok (.invokevirtual 120, 3) := by decide +kernel
theorem dX6_open_55 : decode cX6_open 55 = .ok (.aload_n 0, 1) := by decide +kernel
theorem dX6_open_56 : decode cX6_open 56 = .ok (.getfield 7, 3) := by decide +kernel
theorem dX6_open_59 : decode cX6_open 59 = .ok (.iconst 0, 1) := by decide +kernel
theorem dX6_open_60 : decode cX6_open 60 = .ok (.iaload, 1) := by decide +kernel
theorem dX6_open_61 : decode cX6_open 61 = .ok (.iconst 1, 1) := by decide +kernel
theorem dX6_open_62 : decode cX6_open 62 = .ok (.isub, 1) := by decide +kernel
theorem dX6_open_63 : decode cX6_open 63 = .ok (.ireturn, 1) := by decide +kernel
theorem dX6_planNow_0 : decode cX6_planNow 0 = .ok (.iload_n 1, 1) := by decide +kernel
theorem dX6_planNow_1 : decode cX6_planNow 1 = .ok (.invokestatic 39, 3) := by decide +kernel
theorem dX6_planNow_4 : decode cX6_planNow 4 = .ok (.istore_n 3, 1) := by decide +kernel
theorem dX6_planNow_5 : decode cX6_planNow 5 = .ok (.aload_n 0, 1) := by decide +kernel
theorem dX6_planNow_6 : decode cX6_planNow 6 = .ok (.getfield 7, 3) := by decide +kernel
theorem dX6_planNow_9 : decode cX6_planNow 9 = .ok (.iload_n 3, 1) := by decide +kernel
theorem dX6_planNow_10 : decode cX6_planNow 10 = .ok (.bipush 10, 2) := by decide +kernel
theorem dX6_planNow_12 : decode cX6_planNow 12 = .ok (.iadd, 1) := by decide +kernel
theorem dX6_planNow_13 : decode cX6_planNow 13 = .ok (.aload_n 0, 1) := by decide +kernel
theorem dX6_planNow_14 : decode cX6_planNow 14 = .ok (.getfield 7, 3) := by decide +kernel
theorem dX6_planNow_17 : decode cX6_planNow 17 = .ok (.iload_n 3, 1) := by decide +kernel
theorem dX6_planNow_18 : decode cX6_planNow 18 = .ok (.iconst 5, 1) := by decide +kernel
theorem dX6_planNow_19 : decode cX6_planNow 19 = .ok (.iadd, 1) := by decide +kernel
theorem dX6_planNow_20 : decode cX6_planNow 20 = .ok (.iaload, 1) := by decide +kernel
theorem dX6_planNow_21 : decode cX6_planNow 21 = .ok (.iadd, 1) := by decide +kernel
theorem dX6_planNow_22 : decode cX6_planNow 22 = .ok (.iload_n 2, 1) := by decide +kernel
theorem dX6_planNow_23 : decode cX6_planNow 23 = .ok (.iastore, 1) := by decide +kernel
theorem dX6_planNow_24 : decode cX6_planNow 24 = .ok (.aload_n 0, 1) := by decide +kernel
theorem dX6_planNow_25 : decode cX6_planNow 25 = .ok (.getfield 7, 3) := by decide +kernel
theorem dX6_planNow_28 : decode cX6_planNow 28 = .ok (.iload_n 3, 1) := by decide +kernel
theorem dX6_planNow_29 : decode cX6_planNow 29 = .ok (.bipush 18, 2) := by decide +kernel
theorem dX6_planNow_31 : decode cX6_planNow 31 = .ok (.iadd, 1) := by decide +kernel
theorem dX6_planNow_32 : decode cX6_planNow 32 = .ok (.aload_n 0, 1) := by decide +kernel
theorem dX6_planNow_33 : decode cX6_planNow 33 = .ok (.getfield 7, 3) := by decide +kernel
theorem dX6_planNow_36 : decode cX6_planNow 36 = .ok (.iload_n 3, 1) := by decide +kernel
theorem dX6_planNow_37 : decode cX6_planNow 37 = .ok (.iconst 5, 1) := by decide +kernel
theorem dX6_planNow_38 : decode cX6_planNow 38 = .ok (.iadd, 1) := by decide +kernel
theorem dX6_planNow_39 : decode cX6_planNow 39 = .ok (.iaload, 1) := by decide +kernel
theorem dX6_planNow_40 : decode cX6_planNow 40 = .ok (.iadd, 1) := by decide +kernel
theorem dX6_planNow_41 : decode cX6_planNow 41 = .ok (.iconst (-1), 1) := by decide +kernel
theorem dX6_planNow_42 : decode cX6_planNow 42 = .ok (.iastore, 1) := by decide +kernel
theorem dX6_planNow_43 : decode cX6_planNow 43 = .ok (.aload_n 0, 1) := by decide +kernel
theorem dX6_planNow_44 : decode cX6_planNow 44 = .ok (.getfield 7, 3) := by decide +kernel
theorem dX6_planNow_47 : decode cX6_planNow 47 = .ok (.iload_n 3, 1) := by decide +kernel
theorem dX6_planNow_48 : decode cX6_planNow 48 = .ok (.iconst 5, 1) := by decide +kernel
theorem dX6_planNow_49 : decode cX6_planNow 49 = .ok (.iadd, 1) := by decide +kernel
theorem dX6_planNow_50 : decode cX6_planNow 50 = .ok (.dup2, 1) := by decide +kernel
theorem dX6_planNow_51 : decode cX6_planNow 51 = .ok (.iaload, 1) := by decide +kernel
theorem dX6_planNow_52 : decode cX6_planNow 52 = .ok (.iconst 1, 1) := by decide +kernel
theorem dX6_planNow_53 : decode cX6_planNow 53 = .ok (.iadd, 1) := by decide +kernel
theorem dX6_planNow_54 : decode cX6_planNow 54 = .ok (.iastore, 1) := by decide +kernel
theorem dX6_planNow_55 : decode cX6_planNow 55 = .ok (.return_, 1) := by decide +kernel
theorem dX6_plan_0 : decode cX6_plan 0 = .ok (.aload_n 0, 1) := by decide +kernel
theorem dX6_plan_1 : decode cX6_plan 1 = .ok (.iconst 0, 1) := by decide +kernel
theorem dX6_plan_2 : decode cX6_plan 2 = .ok (.putfield 28, 3) := by decide +kernel
theorem dX6_plan_5 : decode cX6_plan 5 = .ok (.aload_n 0, 1) := by decide +kernel
theorem dX6_plan_6 : decode cX6_plan 6 = .ok (.iload_n 1, 1) := by decide +kernel
theorem dX6_plan_7 : decode cX6_plan 7 = .ok (.invokevirtual 123, 3) := by decide +kernel
theorem dX6_plan_10 : decode cX6_plan 10 = .ok (.ifCond .ne 9, 3) := by decide +kernel
theorem dX6_plan_13 : decode cX6_plan 13 = .ok (.aload_n 0, 1) := by decide +kernel
theorem dX6_plan_14 : decode cX6_plan 14 = .ok (.iconst 1, 1) := by decide +kernel
theorem dX6_plan_15 : decode cX6_plan 15 = .ok (.invokevirtual 114, 3) := by decide +kernel
theorem dX6_plan_18 : decode cX6_plan 18 = .ok (.ireturn, 1) := by decide +kernel
theorem dX6_plan_19 : decode cX6_plan 19 = .ok (.iload_n 2, 1) := by decide +kernel
theorem dX6_plan_20 : decode cX6_plan 20 = .ok (.iconst 1, 1) := by decide +kernel
theorem dX6_plan_21 : decode cX6_plan 21 = .ok (.bipush 60, 2) := by decide +kernel
theorem dX6_plan_23 : decode cX6_plan 23 = .ok (.invokestatic 35, 3) := by decide +kernel
theorem dX6_plan_26 : decode cX6_plan 26 = .ok (.ifCond .ne 9, 3) := by decide +kernel
theorem dX6_plan_29 : decode cX6_plan 29 = .ok (.aload_n 0, 1) := by decide +kernel
theorem dX6_plan_30 : decode cX6_plan 30 = .ok (.iconst 2, 1) := by decide +kernel
theorem dX6_plan_31 : decode cX6_plan 31 = .ok (.invokevirtual 114, 3) := by decide +kernel
theorem dX6_plan_34 : decode cX6_plan 34 = .ok (.ireturn, 1) := by decide +kernel
theorem dX6_plan_35 : decode cX6_plan 35 = .ok (.aload_n 0, 1) := by decide +kernel
theorem dX6_plan_36 : decode cX6_plan 36 = .ok (.iload_n 1, 1) := by decide +kernel
theorem dX6_plan_37 : decode cX6_plan 37 = .ok (.invokevirtual 43, 3) := by decide +kernel
theorem dX6_plan_40 : decode cX6_plan 40 = .ok (.ifCond .eq 19, 3) := by decide +kernel
theorem dX6_plan_43 : decode cX6_plan 43 = .ok (.aload_n 0, 1) := by decide +kernel
theorem dX6_plan_44 : decode cX6_plan 44 = .ok (.getfield 7, 3) := by decide +kernel
theorem dX6_plan_47 : decode cX6_plan 47 = .ok (.iload_n 1, 1) := by decide +kernel
theorem dX6_plan_48 : decode cX6_plan 48 = .ok (.invokestatic 39, 3) := by decide +kernel
theorem dX6_plan_51 : decode cX6_plan 51 = .ok (.iconst 5, 1) := by decide +kernel
theorem dX6_plan_52 : decode cX6_plan 52 = .ok (.iadd, 1) := by decide +kernel
theorem dX6_plan_53 : decode cX6_plan 53 = .ok (.iaload, 1) := by decide +kernel
theorem dX6_plan_54 : decode cX6_plan 54 = .ok (.bipush 8, 2) := by decide +kernel
theorem dX6_plan_56 : decode cX6_plan 56 = .ok (.if_icmp .ne 9, 3) := by decide +kernel
theorem dX6_plan_59 : decode cX6_plan 59 = .ok (.aload_n 0, 1) := by decide +kernel
theorem dX6_plan_60 : decode cX6_plan 60 = .ok (.iconst 3, 1) := by decide +kernel
theorem dX6_plan_61 : decode cX6_plan 61 = .ok (.invokevirtual 114, 3) := by decide +kernel
theorem dX6_plan_64 : decode cX6_plan 64 = .ok (.ireturn, 1) := by decide +kernel
theorem dX6_plan_65 : decode cX6_plan 65 = .ok (.aload_n 0, 1) := by decide +kernel
theorem dX6_plan_66 : decode cX6_plan 66 = .ok (.invokevirtual 117, 3) := by decide +kernel
theorem dX6_plan_69 : decode cX6_plan 69 = .ok (.aload_n 0, 1) := by decide +kernel
theorem dX6_plan_70 : decode cX6_plan 70 = .ok (.iload_n 1, 1) := by decide +kernel
theorem dX6_plan_71 : decode cX6_plan 71 = .ok (.iload_n 2, 1) := by decide +kernel
theorem dX6_plan_72 : decode cX6_plan 72 = .ok (.invokevirtual 126, 3) := by decide +kernel
theorem dX6_plan_75 : decode cX6_plan 75 = .ok (.aload_n 0, 1) := by decide +kernel
theorem dX6_plan_76 : decode cX6_plan 76 = .ok (.getfield 7, 3) := by decide +kernel
theorem dX6_plan_79 : decode cX6_plan 79 = .ok (.iload_n 1, 1) := by decide +kernel
theorem dX6_plan_80 : decode cX6_plan 80 = .ok (.invokestatic 39, 3) := by decide +kernel
theorem dX6_plan_83 : decode cX6_plan 83 = .ok (.iconst 5, 1) := by decide +kernel
theorem dX6_plan_84 : decode cX6_plan 84 = .ok (.iadd, 1) := by decide +kernel
theorem dX6_plan_85 : decode cX6_plan 85 = .ok (.iaload, 1) := by decide +kernel
theorem dX6_plan_86 : decode cX6_plan 86 = .ok (.iconst 1, 1) := by decide +kernel
theorem dX6_plan_87 : decode cX6_plan 87 = .ok (.isub, 1) := by decide +kernel
theorem dX6_plan_88 : decode cX6_plan 88 = .ok (.ireturn, 1) := by decide +kernel
theorem dX6_rank_0 : decode cX6_rank 0 = .ok (.aload_n 0, 1) := by decide +kernel
theorem dX6_rank_1 : decode cX6_rank 1 = .ok (.iconst 0, 1) := by decide +kernel
theorem dX6_rank_2 : decode cX6_rank 2 = .ok (.putfield 28, 3) := by decide +kernel
theorem dX6_rank_5 : decode cX6_rank 5 = .ok (.aload_n 0, 1) := by decide +kernel
theorem dX6_rank_6 : decode cX6_rank 6 = .ok (.iload_n 1, 1) := by decide +kernel
theorem dX6_rank_7 : decode cX6_rank 7 = .ok (.invokevirtual 123, 3) := by decide +kernel
theorem dX6_rank_10 : decode cX6_rank 10 = .ok (.ifCond .ne 9, 3) := by decide +kernel
theorem dX6_rank_13 : decode cX6_rank 13 = .ok (.aload_n 0, 1) := by decide +kernel
theorem dX6_rank_14 : decode cX6_rank 14 = .ok (.iconst 1, 1) := by decide +kernel
theorem dX6_rank_15 : decode cX6_rank 15 = .ok (.invokevirtual 114, 3) := by decide +kernel
theorem dX6_rank_18 : decode cX6_rank 18 = .ok (.ireturn, 1) := by decide +kernel
theorem dX6_rank_19 : decode cX6_rank 19 = .ok (.iload_n 2, 1) := by decide +kernel
theorem dX6_rank_20 : decode cX6_rank 20 = .ok (.invokestatic 111, 3) := by decide +kernel
theorem dX6_rank_23 : decode cX6_rank 23 = .ok (.ifCond .ne 9, 3) := by decide +kernel
theorem dX6_rank_26 : decode cX6_rank 26 = .ok (.aload_n 0, 1) := by decide +kernel
theorem dX6_rank_27 : decode cX6_rank 27 = .ok (.iconst 2, 1) := by decide +kernel
theorem dX6_rank_28 : decode cX6_rank 28 = .ok (.invokevirtual 114, 3) := by decide +kernel
theorem dX6_rank_31 : decode cX6_rank 31 = .ok (.ireturn, 1) := by decide +kernel
theorem dX6_rank_32 : decode cX6_rank 32 = .ok (.aload_n 0, 1) := by decide +kernel
theorem dX6_rank_33 : decode cX6_rank 33 = .ok (.invokevirtual 117, 3) := by decide +kernel
theorem dX6_rank_36 : decode cX6_rank 36 = .ok (.aload_n 0, 1) := by decide +kernel
theorem dX6_rank_37 : decode cX6_rank 37 = .ok (.getfield 7, 3) := by decide +kernel
theorem dX6_rank_40 : decode cX6_rank 40 = .ok (.iload_n 1, 1) := by decide +kernel
theorem dX6_rank_41 : decode cX6_rank 41 = .ok (.invokestatic 39, 3) := by decide +kernel
theorem dX6_rank_44 : decode cX6_rank 44 = .ok (.iaload, 1) := by decide +kernel
theorem dX6_rank_45 : decode cX6_rank 45 = .ok (.istore_n 3, 1) := by decide +kernel
theorem dX6_rank_46 : decode cX6_rank 46 = .ok (.aload_n 0, 1) := by decide +kernel
theorem dX6_rank_47 : decode cX6_rank 47 = .ok (.getfield 7, 3) := by decide +kernel
theorem dX6_rank_50 : decode cX6_rank 50 = .ok (.iload_n 1, 1) := by decide +kernel
theorem dX6_rank_51 : decode cX6_rank 51 = .ok (.invokestatic 39, 3) := by decide +kernel
theorem dX6_rank_54 : decode cX6_rank 54 = .ok (.iload_n 2, 1) := by decide +kernel
theorem dX6_rank_55 : decode cX6_rank 55 = .ok (.iastore, 1) := by decide +kernel
theorem dX6_rank_56 : decode cX6_rank 56 = .ok (.iload_n 3, 1) := by decide +kernel
theorem dX6_rank_57 : decode cX6_rank 57 = .ok (.ireturn, 1) := by decide +kernel
theorem dX6_set_0 : decode cX6_set 0 = .ok (.aload_n 0, 1) := by decide +kernel
theorem dX6_set_1 : decode cX6_set 1 = .ok (.iconst 0, 1) := by decide +kernel
theorem dX6_set_2 : decode cX6_set 2 = .ok (.putfield 28, 3) := by decide +kernel
theorem dX6_set_5 : decode cX6_set 5 = .ok (.iload_n 1, 1) := by decide +kernel
theorem dX6_set_6 : decode cX6_set 6 = .ok (.iconst 0, 1) := by decide +kernel
theorem dX6_set_7 : decode cX6_set 7 = .ok (.iconst 2, 1) := by decide +kernel
theorem dX6_set_8 : decode cX6_set 8 = .ok (.invokestatic 35, 3) := by decide +kernel
theorem dX6_set_11 : decode cX6_set 11 = .ok (.ifCond .ne 9, 3) := by decide +kernel
theorem dX6_set_14 : decode cX6_set 14 = .ok (.aload_n 0, 1) := by decide +kernel
theorem dX6_set_15 : decode cX6_set 15 = .ok (.iconst 1, 1) := by decide +kernel
theorem dX6_set_16 : decode cX6_set 16 = .ok (.invokevirtual 114, 3) := by decide +kernel
theorem dX6_set_19 : decode cX6_set 19 = .ok (.ireturn, 1) := by decide +kernel
theorem dX6_set_20 : decode cX6_set 20 = .ok (.iload_n 2, 1) := by decide +kernel
theorem dX6_set_21 : decode cX6_set 21 = .ok (.iconst 0, 1) := by decide +kernel
theorem dX6_set_22 : decode cX6_set 22 = .ok (.iload_n 1, 1) := by decide +kernel
theorem dX6_set_23 : decode cX6_set 23 = .ok (.ifCond .ne 7, 3) := by decide +kernel
theorem dX6_set_26 : decode cX6_set 26 = .ok (.iconst 2, 1) := by decide +kernel
theorem dX6_set_27 : decode cX6_set 27 = .ok (.goto 5, 3) := by decide +kernel
theorem dX6_set_30 : decode cX6_set 30 = .ok (.bipush 100, 2) := by decide +kernel
theorem dX6_set_32 : decode cX6_set 32 = .ok (.invokestatic 35, 3) := by decide +kernel
theorem dX6_set_35 : decode cX6_set 35 = .ok (.ifCond .ne 9, 3) := by decide +kernel
theorem dX6_set_38 : decode cX6_set 38 = .ok (.aload_n 0, 1) := by decide +kernel
theorem dX6_set_39 : decode cX6_set 39 = .ok (.iconst 2, 1) := by decide +kernel
theorem dX6_set_40 : decode cX6_set 40 = .ok (.invokevirtual 114, 3) := by decide +kernel
theorem dX6_set_43 : decode cX6_set 43 = .ok (.ireturn, 1) := by decide +kernel
theorem dX6_set_44 : decode cX6_set 44 = .ok (.aload_n 0, 1) := by decide +kernel
theorem dX6_set_45 : decode cX6_set 45 = .ok (.invokevirtual 117, 3) := by decide +kernel
theorem dX6_set_48 : decode cX6_set 48 = .ok (.aload_n 0, 1) := by decide +kernel
theorem dX6_set_49 : decode cX6_set 49 = .ok (.getfield 7, 3) := by decide +kernel
theorem dX6_set_52 : decode cX6_set 52 = .ok (.iconst 3, 1) := by decide +kernel
theorem dX6_set_53 : decode cX6_set 53 = .ok (.iload_n 1, 1) := by decide +kernel
theorem dX6_set_54 : decode cX6_set 54 = .ok (.iadd, 1) := by decide +kernel
theorem dX6_set_55 : decode cX6_set 55 = .ok (.iaload, 1) := by decide +kernel
theorem dX6_set_56 : decode cX6_set 56 = .ok (.istore_n 3, 1) := by decide +kernel
theorem dX6_set_57 : decode cX6_set 57 = .ok (.aload_n 0, 1) := by decide +kernel
theorem dX6_set_58 : decode cX6_set 58 = .ok (.getfield 7, 3) := by decide +kernel
theorem dX6_set_61 : decode cX6_set 61 = .ok (.iconst 3, 1) := by decide +kernel
theorem dX6_set_62 : decode cX6_set 62 = .ok (.iload_n 1, 1) := by decide +kernel
theorem dX6_set_63 : decode cX6_set 63 = .ok (.iadd, 1) := by decide +kernel
theorem dX6_set_64 : decode cX6_set 64 = .ok (.iload_n 2, 1) := by decide +kernel
theorem dX6_set_65 : decode cX6_set 65 = .ok (.iastore, 1) := by decide +kernel
theorem dX6_set_66 : decode cX6_set 66 = .ok (.iload_n 3, 1) := by decide +kernel
theorem dX6_set_67 : decode cX6_set 67 = .ok (.ireturn, 1) := by decide +kernel
theorem dX6_done_0 : decode cX6_done 0 = .ok (.aload_n 0, 1) := by decide +kernel
theorem dX6_done_1 : decode cX6_done 1 = .ok (.iconst 0, 1) := by decide +kernel
theorem dX6_done_2 : decode cX6_done 2 = .ok (.putfield 28, 3) := by decide +kernel
theorem dX6_done_5 : decode cX6_done 5 = .ok (.aload_n 0, 1) := by decide +kernel
theorem dX6_done_6 : decode cX6_done 6 = .ok (.iload_n 1, 1) := by decide +kernel
theorem dX6_done_7 : decode cX6_done 7 = .ok (.invokevirtual 123, 3) := by decide +kernel
theorem dX6_done_10 : decode cX6_done 10 = .ok (.ifCond .ne 9, 3) := by decide +kernel
theorem dX6_done_13 : decode cX6_done 13 = .ok (.aload_n 0, 1) := by decide +kernel
theorem dX6_done_14 : decode cX6_done 14 = .ok (.iconst 1, 1) := by decide +kernel
theorem dX6_done_15 : decode cX6_done 15 = .ok (.invokevirtual 114, 3) := by decide +kernel
theorem dX6_done_18 : decode cX6_done 18 = .ok (.ireturn, 1) := by decide +kernel
theorem dX6_done_19 : decode cX6_done 19 = .ok (.iload_n 2, 1) := by decide +kernel
theorem dX6_done_20 : decode cX6_done 20 = .ok (.iconst 0, 1) := by decide +kernel
theorem dX6_done_21 : decode cX6_done 21 = .ok (.sipush 300, 3) := by decide +kernel
theorem dX6_done_24 : decode cX6_done 24 = .ok (.invokestatic 35, 3) := by decide +kernel
theorem dX6_done_27 : decode cX6_done 27 = .ok (.ifCond .ne 9, 3) := by decide +kernel
theorem dX6_done_30 : decode cX6_done 30 = .ok (.aload_n 0, 1) := by decide +kernel
theorem dX6_done_31 : decode cX6_done 31 = .ok (.iconst 2, 1) := by decide +kernel
theorem dX6_done_32 : decode cX6_done 32 = .ok (.invokevirtual 114, 3) := by decide +kernel
theorem dX6_done_35 : decode cX6_done 35 = .ok (.ireturn, 1) := by decide +kernel
theorem dX6_done_36 : decode cX6_done 36 = .ok (.aload_n 0, 1) := by decide +kernel
theorem dX6_done_37 : decode cX6_done 37 = .ok (.iload_n 1, 1) := by decide +kernel
theorem dX6_done_38 : decode cX6_done 38 = .ok (.invokevirtual 129, 3) := by decide +kernel
theorem dX6_done_41 : decode cX6_done 41 = .ok (.ifCond .ne 9, 3) := by decide +kernel
theorem dX6_done_44 : decode cX6_done 44 = .ok (.aload_n 0, 1) := by decide +kernel
theorem dX6_done_45 : decode cX6_done 45 = .ok (.iconst 3, 1) := by decide +kernel
theorem dX6_done_46 : decode cX6_done 46 = .ok (.invokevirtual 114, 3) := by decide +kernel
theorem dX6_done_49 : decode cX6_done 49 = .ok (.ireturn, 1) := by decide +kernel
theorem dX6_done_50 : decode cX6_done 50 = .ok (.aload_n 0, 1) := by decide +kernel
theorem dX6_done_51 : decode cX6_done 51 = .ok (.invokevirtual 117, 3) := by decide +kernel
theorem dX6_done_54 : decode cX6_done 54 = .ok (.aload_n 0, 1) := by decide +kernel
theorem dX6_done_55 : decode cX6_done 55 = .ok (.iload_n 1, 1) := by decide +kernel
theorem dX6_done_56 : decode cX6_done 56 = .ok (.iload_n 2, 1) := by decide +kernel
theorem dX6_done_57 : decode cX6_done 57 = .ok (.invokevirtual 132, 3) := by decide +kernel
theorem dX6_done_60 : decode cX6_done 60 = .ok (.aload_n 0, 1) := by decide +kernel
theorem dX6_done_61 : decode cX6_done 61 = .ok (.getfield 93, 3) := by decide +kernel
theorem dX6_done_64 : decode cX6_done 64 = .ok (.ireturn, 1) := by decide +kernel
theorem dX6_lend_0 : decode cX6_lend 0 = .ok (.aload_n 0, 1) := by decide +kernel
theorem dX6_lend_1 : decode cX6_lend 1 = .ok (.iconst 0, 1) := by decide +kernel
theorem dX6_lend_2 : decode cX6_lend 2 = .ok (.putfield 28, 3) := by decide +kernel
theorem dX6_lend_5 : decode cX6_lend 5 = .ok (.aload_n 0, 1) := by decide +kernel
theorem dX6_lend_6 : decode cX6_lend 6 = .ok (.iload_n 1, 1) := by decide +kernel
theorem dX6_lend_7 : decode cX6_lend 7 = .ok (.invokevirtual 123, 3) := by decide +kernel
theorem dX6_lend_10 : decode cX6_lend 10 = .ok (.ifCond .eq 11, 3) := by decide +kernel
theorem dX6_lend_13 : decode cX6_lend 13 = .ok (.aload_n 0, 1) := by decide +kernel
theorem dX6_lend_14 : decode cX6_lend 14 = .ok (.iload_n 2, 1) := by decide +kernel
theorem dX6_lend_15 : decode cX6_lend 15 = .ok (.invokevirtual 123, 3) := by decide +kernel
theorem dX6_lend_18 : decode cX6_lend 18 = .ok (.ifCond .ne 9, 3) := by decide +kernel
theorem dX6_lend_21 : decode cX6_lend 21 = .ok (.aload_n 0, 1) := by decide +kernel
theorem dX6_lend_22 : decode cX6_lend 22 = .ok (.iconst 1, 1) := by decide +kernel
theorem dX6_lend_23 : decode cX6_lend 23 = .ok (.invokevirtual 114, 3) := by decide +kernel
theorem dX6_lend_26 : decode cX6_lend 26 = .ok (.ireturn, 1) := by decide +kernel
theorem dX6_lend_27 : decode cX6_lend 27 = .ok (.iload_n 1, 1) := by decide +kernel
theorem dX6_lend_28 : decode cX6_lend 28 = .ok (.iload_n 2, 1) := by decide +kernel
theorem dX6_lend_29 : decode cX6_lend 29 = .ok (.if_icmp .eq 13, 3) := by decide +kernel
theorem dX6_lend_32 : decode cX6_lend 32 = .ok (.iload_n 3, 1) := by decide +kernel
theorem dX6_lend_33 : decode cX6_lend 33 = .ok (.iconst 1, 1) := by decide +kernel
theorem dX6_lend_34 : decode cX6_lend 34 = .ok (.bipush 99, 2) := by decide +kernel
theorem dX6_lend_36 : decode cX6_lend 36 = .ok (.invokestatic 35, 3) := by decide +kernel
theorem dX6_lend_39 : decode cX6_lend 39 = .ok (.ifCond .ne 9, 3) := by decide +kernel
theorem dX6_lend_42 : decode cX6_lend 42 = .ok (.aload_n 0, 1) := by decide +kernel
theorem dX6_lend_43 : decode cX6_lend 43 = .ok (.iconst 2, 1) := by decide +kernel
theorem dX6_lend_44 : decode cX6_lend 44 = .ok (.invokevirtual 114, 3) := by decide +kernel
theorem dX6_lend_47 : decode cX6_lend 47 = .ok (.ireturn, 1) := by decide +kernel
theorem dX6_lend_48 : decode cX6_lend 48 = .ok (.aload_n 0, 1) := by decide +kernel
theorem dX6_lend_49 : decode cX6_lend 49 = .ok (.iload_n 1, 1) := by decide +kernel
theorem dX6_lend_50 : decode cX6_lend 50 = .ok (.invokevirtual 43, 3) := by decide +kernel
theorem dX6_lend_53 : decode cX6_lend 53 = .ok (.ifCond .eq 26, 3) := by decide +kernel
theorem dX6_lend_56 : decode cX6_lend 56 = .ok (.aload_n 0, 1) := by decide +kernel
theorem dX6_lend_57 : decode cX6_lend 57 = .ok (.iload_n 2, 1) := by decide +kernel
theorem dX6_lend_58 : decode cX6_lend 58 = .ok (.invokevirtual 43, 3) := by decide +kernel
theorem dX6_lend_61 : decode cX6_lend 61 = .ok (.ifCond .eq 18, 3) := by decide +kernel
theorem dX6_lend_64 : decode cX6_lend 64 = .ok (.aload_n 0, 1) := by decide +kernel
theorem dX6_lend_65 : decode cX6_lend 65 = .ok (.getfield 7, 3) := by decide +kernel
theorem dX6_lend_68 : decode cX6_lend 68 = .ok (.iload_n 1, 1) := by decide +kernel
theorem dX6_lend_69 : decode cX6_lend 69 = .ok (.invokestatic 39, 3) := by decide +kernel
theorem dX6_lend_72 : decode cX6_lend 72 = .ok (.iconst 2, 1) := by decide +kernel
theorem dX6_lend_73 : decode cX6_lend 73 = .ok (.iadd, 1) := by decide +kernel
theorem dX6_lend_74 : decode cX6_lend 74 = .ok (.iaload, 1) := by decide +kernel
theorem dX6_lend_75 : decode cX6_lend 75 = .ok (.iload_n 3, 1) := by decide +kernel
theorem dX6_lend_76 : decode cX6_lend 76 = .ok (.if_icmp .ge 9, 3) := by decide +kernel
theorem dX6_lend_79 : decode cX6_lend 79 = .ok (.aload_n 0, 1) := by decide +kernel
theorem dX6_lend_80 : decode cX6_lend 80 = .ok (.iconst 3, 1) := by decide +kernel
theorem dX6_lend_81 : decode cX6_lend 81 = .ok (.invokevirtual 114, 3) := by decide +kernel
theorem dX6_lend_84 : decode cX6_lend 84 = .ok (.ireturn, 1) := by decide +kernel
theorem dX6_lend_85 : decode cX6_lend 85 = .ok (.aload_n 0, 1) := by decide +kernel
theorem dX6_lend_86 : decode cX6_lend 86 = .ok (.invokevirtual 117, 3) := by decide +kernel
theorem dX6_lend_89 : decode cX6_lend 89 = .ok (.aload_n 0, 1) := by decide +kernel
theorem dX6_lend_90 : decode cX6_lend 90 = .ok (.iload_n 1, 1) := by decide +kernel
theorem dX6_lend_91 : decode cX6_lend 91 = .ok (.iload_n 2, 1) := by decide +kernel
theorem dX6_lend_92 : decode cX6_lend 92 = .ok (.iload_n 3, 1) := by decide +kernel
theorem dX6_lend_93 : decode cX6_lend 93 = .ok (.invokevirtual 86, 3) := by decide +kernel
theorem dX6_lend_96 : decode cX6_lend 96 = .ok (.aload_n 0, 1) := by decide +kernel
theorem dX6_lend_97 : decode cX6_lend 97 = .ok (.getfield 7, 3) := by decide +kernel
theorem dX6_lend_100 : decode cX6_lend 100 = .ok (.iload_n 1, 1) := by decide +kernel
theorem dX6_lend_101 : decode cX6_lend 101 = .ok (.invokestatic 39, 3) := by decide +kernel
theorem dX6_lend_104 : decode cX6_lend 104 = .ok (.iconst 2, 1) := by decide +kernel
theorem dX6_lend_105 : decode cX6_lend 105 = .ok (.iadd, 1) := by decide +kernel
theorem dX6_lend_106 : decode cX6_lend 106 = .ok (.dup2, 1) := by decide +kernel
theorem dX6_lend_107 : decode cX6_lend 107 = .ok (.iaload, 1) := by decide +kernel
theorem dX6_lend_108 : decode cX6_lend 108 = .ok (.iload_n 3, 1) := by decide +kernel
theorem dX6_lend_109 : decode cX6_lend 109 = .ok (.isub, 1) := by decide +kernel
theorem dX6_lend_110 : decode cX6_lend 110 = .ok (.iastore, 1) := by decide +kernel
theorem dX6_lend_111 : decode cX6_lend 111 = .ok (.aload_n 0, 1) := by decide +kernel
theorem dX6_lend_112 : decode cX6_lend 112 = .ok (.getfield 7, 3) := by decide +kernel
theorem dX6_lend_115 : decode cX6_lend 115 = .ok (.iload_n 2, 1) := by decide +kernel
theorem dX6_lend_116 : decode cX6_lend 116 = .ok (.invokestatic 39, 3) := by decide +kernel
theorem dX6_lend_119 : decode cX6_lend 119 = .ok (.iconst 2, 1) := by decide +kernel
theorem dX6_lend_120 : decode cX6_lend 120 = .ok (.iadd, 1) := by decide +kernel
theorem dX6_lend_121 : decode cX6_lend 121 = .ok (.dup2, 1) := by decide +kernel
theorem dX6_lend_122 : decode cX6_lend 122 = .ok (.iaload, 1) := by decide +kernel
theorem dX6_lend_123 : decode cX6_lend 123 = .ok (.iload_n 3, 1) := by decide +kernel
theorem dX6_lend_124 : decode cX6_lend 124 = .ok (.iadd, 1) := by decide +kernel
theorem dX6_lend_125 : decode cX6_lend 125 = .ok (.iastore, 1) := by decide +kernel
theorem dX6_lend_126 : decode cX6_lend 126 = .ok (.aload_n 0, 1) := by decide +kernel
theorem dX6_lend_127 : decode cX6_lend 127 = .ok (.iload_n 2, 1) := by decide +kernel
theorem dX6_lend_128 : decode cX6_lend 128 = .ok (.iload_n 1, 1) := by decide +kernel
theorem dX6_lend_129 : decode cX6_lend 129 = .ok (.invokevirtual 135, 3) := by decide +kernel
theorem dX6_lend_132 : decode cX6_lend 132 = .ok (.ireturn, 1) := by decide +kernel
theorem dX6_payBack_0 : decode cX6_payBack 0 = .ok (.aload_n 0, 1) := by decide +kernel
theorem dX6_payBack_1 : decode cX6_payBack 1 = .ok (.iconst 0, 1) := by decide +kernel
theorem dX6_payBack_2 : decode cX6_payBack 2 = .ok (.putfield 28, 3) := by decide +kernel
theorem dX6_payBack_5 : decode cX6_payBack 5 = .ok (.aload_n 0, 1) := by decide +kernel
theorem dX6_payBack_6 : decode cX6_payBack 6 = .ok (.iload_n 1, 1) := by decide +kernel
theorem dX6_payBack_7 : decode cX6_payBack 7 = .ok (.invokevirtual 123, 3) := by decide +kernel
theorem dX6_payBack_10 : decode cX6_payBack 10 = .ok (.ifCond .eq 11, 3) := by decide +kernel
theorem dX6_payBack_13 : decode cX6_payBack 13 = .ok (.aload_n 0, 1) := by decide +kernel
theorem dX6_payBack_14 : decode cX6_payBack 14 = .ok (.iload_n 2, 1) := by decide +kernel
theorem dX6_payBack_15 : decode cX6_payBack 15 = .ok (.invokevirtual 123, 3) := by decide +kernel
theorem dX6_payBack_18 : decode cX6_payBack 18 = .ok (.ifCond .ne 9, 3) := by decide +kernel
theorem dX6_payBack_21 : decode cX6_payBack 21 = .ok (.aload_n 0, 1) := by decide +kernel
theorem dX6_payBack_22 : decode cX6_payBack 22 = .ok (.iconst 1, 1) := by decide +kernel
theorem dX6_payBack_23 : decode cX6_payBack 23 = .ok (.invokevirtual 114, 3) := by decide +kernel
theorem dX6_payBack_26 : decode cX6_payBack 26 = .ok (.ireturn, 1) := by decide +kernel
theorem dX6_payBack_27 : decode cX6_payBack 27 = .ok (.iload_n 2, 1) := by decide +kernel
theorem dX6_payBack_28 : decode cX6_payBack 28 = .ok (.iload_n 1, 1) := by decide +kernel
theorem dX6_payBack_29 : decode cX6_payBack 29 = .ok (.if_icmp .eq 14, 3) := by decide +kernel
theorem dX6_payBack_32 : decode cX6_payBack 32 = .ok (.iload_n 3, 1) := by decide +kernel
theorem dX6_payBack_33 : decode cX6_payBack 33 = .ok (.iconst 1, 1) := by decide +kernel
theorem dX6_payBack_34 : decode cX6_payBack 34 = .ok (.sipush 9999, 3) := by decide +kernel
theorem dX6_payBack_37 : decode cX6_payBack 37 = .ok (.invokestatic 35, 3) := by decide +kernel
theorem dX6_payBack_40 : decode cX6_payBack 40 = .ok (.ifCond .ne 9, 3) := by decide +kernel
theorem dX6_payBack_43 : decode cX6_payBack 43 = .ok (.aload_n 0, 1) := by decide +kernel
theorem dX6_payBack_44 : decode cX6_payBack 44 = .ok (.iconst 2, 1) := by decide +kernel
theorem dX6_payBack_45 : decode cX6_payBack 45 = .ok (.invokevirtual 114, 3) := by decide +kernel
theorem dX6_payBack_48 : decode cX6_payBack 48 = .ok (.ireturn, 1) := by decide +kernel
theorem dX6_payBack_49 : decode cX6_payBack 49 = .ok (.aload_n 0, 1) := by decide +kernel
theorem dX6_payBack_50 : decode cX6_payBack 50 = .ok (.iload_n 1, 1) := by decide +kernel
theorem dX6_payBack_51 : decode cX6_payBack 51 = .ok (.iload_n 2, 1) := by decide +kernel
theorem dX6_payBack_52 : decode cX6_payBack 52 = .ok (.invokevirtual 135, 3) := by decide +kernel
theorem dX6_payBack_55 : decode cX6_payBack 55 = .ok (.iload_n 3, 1) := by decide +kernel
theorem dX6_payBack_56 : decode cX6_payBack 56 = .ok (.if_icmp .lt 18, 3) := by decide +kernel
theorem dX6_payBack_59 : decode cX6_payBack 59 = .ok (.aload_n 0, 1) := by decide +kernel
theorem dX6_payBack_60 : decode cX6_payBack 60 = .ok (.getfield 7, 3) := by decide +kernel
theorem dX6_payBack_63 : decode cX6_payBack 63 = .ok (.iload_n 1, 1) := by decide +kernel
theorem dX6_payBack_64 : decode cX6_payBack 64 = .ok (.invokestatic 39, 3) := by decide +kernel
theorem dX6_payBack_67 : decode cX6_payBack 67 = .ok (.iconst 2, 1) := by decide +kernel
theorem dX6_payBack_68 : decode cX6_payBack 68 = .ok (.iadd, 1) := by decide +kernel
theorem dX6_payBack_69 : decode cX6_payBack 69 = .ok (.iaload, 1) := by decide +kernel
theorem dX6_payBack_70 : decode cX6_payBack 70 = .ok (.iload_n 3, 1) := by decide +kernel
theorem dX6_payBack_71 : decode cX6_payBack 71 = .ok (.if_icmp .ge 9, 3) := by decide +kernel
theorem dX6_payBack_74 : decode cX6_payBack 74 = .ok (.aload_n 0, 1) := by decide +kernel
theorem dX6_payBack_75 : decode cX6_payBack 75 = .ok (.iconst 3, 1) := by decide +kernel
theorem dX6_payBack_76 : decode cX6_payBack 76 = .ok (.invokevirtual 114, 3) := by decide +kernel
theorem dX6_payBack_79 : decode cX6_payBack 79 = .ok (.ireturn, 1) := by decide +kernel
theorem dX6_payBack_80 : decode cX6_payBack 80 = .ok (.aload_n 0, 1) := by decide +kernel
theorem dX6_payBack_81 : decode cX6_payBack 81 = .ok (.invokevirtual 117, 3) := by decide +kernel
theorem dX6_payBack_84 : decode cX6_payBack 84 = .ok (.aload_n 0, 1) := by decide +kernel
theorem dX6_payBack_85 : decode cX6_payBack 85 = .ok (.getfield 7, 3) := by decide +kernel
theorem dX6_payBack_88 : decode cX6_payBack 88 = .ok (.iload_n 1, 1) := by decide +kernel
theorem dX6_payBack_89 : decode cX6_payBack 89 = .ok (.invokestatic 39, 3) := by decide +kernel
theorem dX6_payBack_92 : decode cX6_payBack 92 = .ok (.iconst 2, 1) := by decide +kernel
theorem dX6_payBack_93 : decode cX6_payBack 93 = .ok (.iadd, 1) := by decide +kernel
theorem dX6_payBack_94 : decode cX6_payBack 94 = .ok (.dup2, 1) := by decide +kernel
theorem dX6_payBack_95 : decode cX6_payBack 95 = .ok (.iaload, 1) := by decide +kernel
theorem dX6_payBack_96 : decode cX6_payBack 96 = .ok (.iload_n 3, 1) := by decide +kernel
theorem dX6_payBack_97 : decode cX6_payBack 97 = .ok (.isub, 1) := by decide +kernel
theorem dX6_payBack_98 : decode cX6_payBack 98 = .ok (.iastore, 1) := by decide +kernel
theorem dX6_payBack_99 : decode cX6_payBack 99 = .ok (.aload_n 0, 1) := by decide +kernel
theorem dX6_payBack_100 : decode cX6_payBack 100 = .ok (.getfield 7, 3) := by decide +kernel
theorem dX6_payBack_103 : decode cX6_payBack 103 = .ok (.iload_n 2, 1) := by decide +kernel
theorem dX6_payBack_104 : decode cX6_payBack 104 = .ok (.invokestatic 39, 3) := by decide +kernel
theorem dX6_payBack_107 : decode cX6_payBack 107 = .ok (.iconst 2, 1) := by decide +kernel
theorem dX6_payBack_108 : decode cX6_payBack 108 = .ok (.iadd, 1) := by decide +kernel
theorem dX6_payBack_109 : decode cX6_payBack 109 = .ok (.dup2, 1) := by decide +kernel
theorem dX6_payBack_110 : decode cX6_payBack 110 = .ok (.iaload, 1) := by decide +kernel
theorem dX6_payBack_111 : decode cX6_payBack 111 = .ok (.iload_n 3, 1) := by decide +kernel
theorem dX6_payBack_112 : decode cX6_payBack 112 = .ok (.iadd, 1) := by decide +kernel
theorem dX6_payBack_113 : decode cX6_payBack 113 = .ok (.iastore, 1) := by decide +kernel
theorem dX6_payBack_114 : decode cX6_payBack 114 = .ok (.aload_n 0, 1) := by decide +kernel
theorem dX6_payBack_115 : decode cX6_payBack 115 = .ok (.aload_n 0, 1) := by decide +kernel
theorem dX6_payBack_116 : decode cX6_payBack 116 = .ok (.iload_n 2, 1) := by decide +kernel
theorem dX6_payBack_117 : decode cX6_payBack 117 = .ok (.iload_n 1, 1) := by decide +kernel
theorem dX6_payBack_118 : decode cX6_payBack 118 = .ok (.invokevirtual 53, 3) := by decide +kernel
theorem dX6_payBack_121 : decode cX6_payBack 121 = .ok (.iload_n 3, 1) := by decide +kernel
theorem dX6_payBack_122 : decode cX6_payBack 122 = .ok (.invokevirtual 64, 3) := by decide +kernel
theorem dX6_payBack_125 : decode cX6_payBack 125 = .ok (.aload_n 0, 1) := by decide +kernel
theorem dX6_payBack_126 : decode cX6_payBack 126 = .ok (.iload_n 1, 1) := by decide +kernel
theorem dX6_payBack_127 : decode cX6_payBack 127 = .ok (.iload_n 2, 1) := by decide +kernel
theorem dX6_payBack_128 : decode cX6_payBack 128 = .ok (.invokevirtual 135, 3) := by decide +kernel
theorem dX6_payBack_131 : decode cX6_payBack 131 = .ok (.ireturn, 1) := by decide +kernel
theorem dX6_writeOff_0 : decode cX6_writeOff 0 = .ok (.iconst 0, 1) := by decide +kernel
theorem dX6_writeOff_1 : decode cX6_writeOff 1 = .ok (.istore_n 2, 1) := by decide +kernel
theorem dX6_writeOff_2 : decode cX6_writeOff 2 = .ok (.iconst 0, 1) := by decide +kernel
theorem dX6_writeOff_3 : decode cX6_writeOff 3 = .ok (.istore_n 3, 1) := by decide +kernel
theorem dX6_writeOff_4 : decode cX6_writeOff 4 = .ok (.iload_n 3, 1) := by decide +kernel
theorem dX6_writeOff_5 : decode cX6_writeOff 5 = .ok (.aload_n 0, 1) := by decide +kernel
theorem dX6_writeOff_6 : decode cX6_writeOff 6 = .ok (.getfield 7, 3) := by decide +kernel
theorem dX6_writeOff_9 : decode cX6_writeOff 9 = .ok (.iconst 1, 1) := by decide +kernel
theorem dX6_writeOff_10 : decode cX6_writeOff 10 = .ok (.iaload, 1) := by decide +kernel
theorem dX6_writeOff_11 : decode cX6_writeOff 11 = .ok (.if_icmp .ge 107, 3) := by decide +kernel
theorem dX6_writeOff_14 : decode cX6_writeOff 14 = .ok (.aload_n 0, 1) := by decide +kernel
theorem dX6_writeOff_15 : decode cX6_writeOff 15 = .ok (.getfield 7, 3) := by decide +kernel
theorem dX6_writeOff_18 : decode cX6_writeOff 18 = .ok (.iload_n 3, 1) := by decide +kernel
theorem dX6_writeOff_19 : decode cX6_writeOff 19 = .ok (.invokestatic 50, 3) := by decide +kernel
theorem dX6_writeOff_22 : decode cX6_writeOff 22 = .ok (.iaload, 1) := by decide +kernel
theorem dX6_writeOff_23 : decode cX6_writeOff 23 = .ok (.istore 4, 2) := by decide +kernel
theorem dX6_writeOff_25 : decode cX6_writeOff 25 = .ok (.aload_n 0, 1) := by decide +kernel
theorem dX6_writeOff_26 : decode cX6_writeOff 26 = .ok (.getfield 7, 3) := by decide +kernel
theorem dX6_writeOff_29 : decode cX6_writeOff 29 = .ok (.iload_n 3, 1) := by decide +kernel
theorem dX6_writeOff_30 : decode cX6_writeOff 30 = .ok (.invokestatic 50, 3) := by decide +kernel
theorem dX6_writeOff_33 : decode cX6_writeOff 33 = .ok (.iconst 1, 1) := by decide +kernel
theorem dX6_writeOff_34 : decode cX6_writeOff 34 = .ok (.iadd, 1) := by decide +kernel
theorem dX6_writeOff_35 : decode cX6_writeOff 35 = .ok (.iaload, 1) := by decide +kernel
theorem dX6_writeOff_36 : decode cX6_writeOff 36 = .ok (.istore 5, 2) := by decide +kernel
theorem dX6_writeOff_38 : decode cX6_writeOff 38 = .ok (.aload_n 0, 1) := by decide +kernel
theorem dX6_writeOff_39 : decode cX6_writeOff 39 = .ok (.getfield 7, 3) := by decide +kernel
theorem dX6_writeOff_42 : decode cX6_writeOff 42 = .ok (.iload_n 3, 1) := by decide +kernel
theorem dX6_writeOff_43 : decode cX6_writeOff 43 = .ok (.invokestatic 50, 3) := by decide +kernel
theorem dX6_writeOff_46 : decode cX6_writeOff 46 = .ok (.iconst 2, 1) := by decide +kernel
theorem dX6_writeOff_47 : decode cX6_writeOff 47 = .ok (.iadd, 1) := by decide +kernel
theorem dX6_writeOff_48 : decode cX6_writeOff 48 = .ok (.iaload, 1) := by decide +kernel
theorem dX6_writeOff_49 : decode cX6_writeOff 49 = .ok (.istore 6, 2) := by decide +kernel
theorem dX6_writeOff_51 : decode cX6_writeOff 51 = .ok (.iload 4, 2) := by decide +kernel
theorem dX6_writeOff_53 : decode cX6_writeOff 53 = .ok (.iload_n 1, 1) := by decide +kernel
theorem dX6_writeOff_54 : decode cX6_writeOff 54 = .ok (.if_icmp .eq 9, 3) := by decide +kernel
theorem dX6_writeOff_57 : decode cX6_writeOff 57 = .ok (.iload 5, 2) := by decide +kernel
theorem dX6_writeOff_59 : decode cX6_writeOff 59 = .ok (.iload_n 1, 1) := by decide +kernel
theorem dX6_writeOff_60 : decode cX6_writeOff 60 = .ok (.if_icmp .ne 52, 3) := by decide +kernel
theorem dX6_writeOff_63 : decode cX6_writeOff 63 = .ok (.aload_n 0, 1) := by decide +kernel
theorem dX6_writeOff_64 : decode cX6_writeOff 64 = .ok (.getfield 7, 3) := by decide +kernel
theorem dX6_writeOff_67 : decode cX6_writeOff 67 = .ok (.iload 4, 2) := by decide +kernel
theorem dX6_writeOff_69 : decode cX6_writeOff 69 = .ok (.invokestatic 39, 3) := by decide +kernel
theorem dX6_writeOff_72 : decode cX6_writeOff 72 = .ok (.bipush 9, 2) := by decide +kernel
theorem dX6_writeOff_74 : decode cX6_writeOff 74 = .ok (.iadd, 1) := by decide +kernel
theorem dX6_writeOff_75 : decode cX6_writeOff 75 = .ok (.dup2, 1) := by decide +kernel
theorem dX6_writeOff_76 : decode cX6_writeOff 76 = .ok (.iaload, 1) := by decide +kernel
theorem dX6_writeOff_77 : decode cX6_writeOff 77 = .ok (.iload 6, 2) := by decide +kernel
theorem dX6_writeOff_79 : decode cX6_writeOff 79 = .ok (.iadd, 1) := by decide +kernel
theorem dX6_writeOff_80 : decode cX6_writeOff 80 = .ok (.iastore, 1) := by decide +kernel
theorem dX6_writeOff_81 : decode cX6_writeOff 81 = .ok (.aload_n 0, 1) := by decide +kernel
theorem dX6_writeOff_82 : decode cX6_writeOff 82 = .ok (.getfield 7, 3) := by decide +kernel
theorem dX6_writeOff_85 : decode cX6_writeOff 85 = .ok (.iload 5, 2) := by decide +kernel
theorem dX6_writeOff_87 : decode cX6_writeOff 87 = .ok (.invokestatic 39, 3) := by decide +kernel
theorem dX6_writeOff_90 : decode cX6_writeOff 90 = .ok (.bipush 8, 2) := by decide +kernel
theorem dX6_writeOff_92 : decode cX6_writeOff 92 = .ok (.iadd, 1) := by decide +kernel
theorem dX6_writeOff_93 : decode cX6_writeOff 93 = .ok (.dup2, 1) := by decide +kernel
theorem dX6_writeOff_94 : decode cX6_writeOff 94 = .ok (.iaload, 1) := by decide +kernel
theorem dX6_writeOff_95 : decode cX6_writeOff 95 = .ok (.iload 6, 2) := by decide +kernel
theorem dX6_writeOff_97 : decode cX6_writeOff 97 = .ok (.iadd, 1) := by decide +kernel
theorem dX6_writeOff_98 : decode cX6_writeOff 98 = .ok (.iastore, 1) := by decide +kernel
theorem dX6_writeOff_99 : decode cX6_writeOff 99 = .ok (.iload_n 2, 1) := by decide +kernel
theorem dX6_writeOff_100 : decode cX6_writeOff 100 = .ok (.iload 6, 2) := by decide +kernel
theorem dX6_writeOff_102 : decode cX6_writeOff 102 = .ok (.iadd, 1) := by decide +kernel
theorem dX6_writeOff_103 : decode cX6_writeOff 103 = .ok (.istore_n 2, 1) := by decide +kernel
theorem dX6_writeOff_104 : decode cX6_writeOff 104 = .ok (.aload_n 0, 1) := by decide +kernel
theorem dX6_writeOff_105 : decode cX6_writeOff 105 = .ok (.iload_n 3, 1) := by decide +kernel
theorem dX6_writeOff_106 : decode cX6_writeOff 106 = .ok (.invokevirtual 57, 3) := by decide +kernel
theorem dX6_writeOff_109 : decode cX6_writeOff 109 = .ok (.goto 6, 3) := by decide +kernel
theorem dX6_writeOff_112 : decode cX6_writeOff 112 = .ok (.iinc 3 1, 3) := by decide +kernel
theorem dX6_writeOff_115 : decode cX6_writeOff 115 = .ok (.goto (-111), 3) := by decide +kernel
theorem dX6_writeOff_118 : decode cX6_writeOff 118 = .ok (.iload_n 2, 1) := by decide +kernel
theorem dX6_writeOff_119 : decode cX6_writeOff 119 = .ok (.ireturn, 1) := by decide +kernel
theorem dX6_close_0 : decode cX6_close 0 = .ok (.aload_n 0, 1) := by decide +kernel
theorem dX6_close_1 : decode cX6_close 1 = .ok (.iconst 0, 1) := by decide +kernel
theorem dX6_close_2 : decode cX6_close 2 = .ok (.putfield 28, 3) := by decide +kernel
theorem dX6_close_5 : decode cX6_close 5 = .ok (.aload_n 0, 1) := by decide +kernel
theorem dX6_close_6 : decode cX6_close 6 = .ok (.iload_n 1, 1) := by decide +kernel
theorem dX6_close_7 : decode cX6_close 7 = .ok (.invokevirtual 123, 3) := by decide +kernel
theorem dX6_close_10 : decode cX6_close 10 = .ok (.ifCond .ne 9, 3) := by decide +kernel
theorem dX6_close_13 : decode cX6_close 13 = .ok (.aload_n 0, 1) := by decide +kernel
theorem dX6_close_14 : decode cX6_close 14 = .ok (.iconst 1, 1) := by decide +kernel
theorem dX6_close_15 : decode cX6_close 15 = .ok (.invokevirtual 114, 3) := by decide +kernel
theorem dX6_close_18 : decode cX6_close 18 = .ok (.ireturn, 1) := by decide +kernel
theorem dX6_close_19 : decode cX6_close 19 = .ok (.aload_n 0, 1) := by decide +kernel
theorem dX6_close_20 : decode cX6_close 20 = .ok (.iload_n 1, 1) := by decide +kernel
theorem dX6_close_21 : decode cX6_close 21 = .ok (.invokevirtual 43, 3) := by decide +kernel
theorem dX6_close_24 : decode cX6_close 24 = .ok (.ifCond .eq 11, 3) := by decide +kernel
theorem dX6_close_27 : decode cX6_close 27 = .ok (.aload_n 0, 1) := by decide +kernel
theorem dX6_close_28 : decode cX6_close 28 = .ok (.iload_n 1, 1) := by decide +kernel
theorem dX6_close_29 : decode cX6_close 29 = .ok (.invokevirtual 47, 3) := by decide +kernel
theorem dX6_close_32 : decode cX6_close 32 = .ok (.ifCond .eq 9, 3) := by decide +kernel
theorem dX6_close_35 : decode cX6_close 35 = .ok (.aload_n 0, 1) := by decide +kernel
theorem dX6_close_36 : decode cX6_close 36 = .ok (.iconst 2, 1) := by decide +kernel
theorem dX6_close_37 : decode cX6_close 37 = .ok (.invokevirtual 114, 3) := by decide +kernel
theorem dX6_close_40 : decode cX6_close 40 = .ok (.ireturn, 1) := by decide +kernel
theorem dX6_close_41 : decode cX6_close 41 = .ok (.aload_n 0, 1) := by decide +kernel
theorem dX6_close_42 : decode cX6_close 42 = .ok (.invokevirtual 117, 3) := by decide +kernel
theorem dX6_close_45 : decode cX6_close 45 = .ok (.aload_n 0, 1) := by decide +kernel
theorem dX6_close_46 : decode cX6_close 46 = .ok (.iload_n 1, 1) := by decide +kernel
theorem dX6_close_47 : decode cX6_close 47 = .ok (.aload_n 0, 1) := by decide +kernel
theorem dX6_close_48 : decode cX6_close 48 = .ok (.getfield 7, 3) := by decide +kernel
theorem dX6_close_51 : decode cX6_close 51 = .ok (.iload_n 1, 1) := by decide +kernel
theorem dX6_close_52 : decode cX6_close 52 = .ok (.invokestatic 39, 3) := by decide +kernel
theorem dX6_close_55 : decode cX6_close 55 = .ok (.iconst 2, 1) := by decide +kernel
theorem dX6_close_56 : decode cX6_close 56 = .ok (.iadd, 1) := by decide +kernel
theorem dX6_close_57 : decode cX6_close 57 = .ok (.iaload, 1) := by decide +kernel
theorem dX6_close_58 : decode cX6_close 58 = .ok (.invokevirtual 108, 3) := by decide +kernel
theorem dX6_close_61 : decode cX6_close 61 = .ok (.aload_n 0, 1) := by decide +kernel
theorem dX6_close_62 : decode cX6_close 62 = .ok (.iload_n 1, 1) := by decide +kernel
theorem dX6_close_63 : decode cX6_close 63 = .ok (.invokevirtual 138, 3) := by decide +kernel
theorem dX6_close_66 : decode cX6_close 66 = .ok (.istore_n 2, 1) := by decide +kernel
theorem dX6_close_67 : decode cX6_close 67 = .ok (.aload_n 0, 1) := by decide +kernel
theorem dX6_close_68 : decode cX6_close 68 = .ok (.getfield 7, 3) := by decide +kernel
theorem dX6_close_71 : decode cX6_close 71 = .ok (.iload_n 1, 1) := by decide +kernel
theorem dX6_close_72 : decode cX6_close 72 = .ok (.invokestatic 39, 3) := by decide +kernel
theorem dX6_close_75 : decode cX6_close 75 = .ok (.bipush 7, 2) := by decide +kernel
theorem dX6_close_77 : decode cX6_close 77 = .ok (.iadd, 1) := by decide +kernel
theorem dX6_close_78 : decode cX6_close 78 = .ok (.iconst 0, 1) := by decide +kernel
theorem dX6_close_79 : decode cX6_close 79 = .ok (.iastore, 1) := by decide +kernel
theorem dX6_close_80 : decode cX6_close 80 = .ok (.aload_n 0, 1) := by decide +kernel
theorem dX6_close_81 : decode cX6_close 81 = .ok (.getfield 7, 3) := by decide +kernel
theorem dX6_close_84 : decode cX6_close 84 = .ok (.iconst 2, 1) := by decide +kernel
theorem dX6_close_85 : decode cX6_close 85 = .ok (.dup2, 1) := by decide +kernel
theorem dX6_close_86 : decode cX6_close 86 = .ok (.iaload, 1) := by decide +kernel
theorem dX6_close_87 : decode cX6_close 87 = .ok (.iload_n 2, 1) := by decide +kernel
theorem dX6_close_88 : decode cX6_close 88 = .ok (.iadd, 1) := by decide +kernel
theorem dX6_close_89 : decode cX6_close 89 = .ok (.iastore, 1) := by decide +kernel
theorem dX6_close_90 : decode cX6_close 90 = .ok (.iload_n 2, 1) := by decide +kernel
theorem dX6_close_91 : decode cX6_close 91 = .ok (.ireturn, 1) := by decide +kernel
theorem dX6_append_0 : decode cX6_append 0 = .ok (.aload_n 0, 1) := by decide +kernel
theorem dX6_append_1 : decode cX6_append 1 = .ok (.iconst 0, 1) := by decide +kernel
theorem dX6_append_2 : decode cX6_append 2 = .ok (.putfield 28, 3) := by decide +kernel
theorem dX6_append_5 : decode cX6_append 5 = .ok (.iload_n 1, 1) := by decide +kernel
theorem dX6_append_6 : decode cX6_append 6 = .ok (.bipush 33, 2) := by decide +kernel
theorem dX6_append_8 : decode cX6_append 8 = .ok (.bipush 126, 2) := by decide +kernel
theorem dX6_append_10 : decode cX6_append 10 = .ok (.invokestatic 35, 3) := by decide +kernel
theorem dX6_append_13 : decode cX6_append 13 = .ok (.ifCond .ne 9, 3) := by decide +kernel
theorem dX6_append_16 : decode cX6_append 16 = .ok (.aload_n 0, 1) := by decide +kernel
theorem dX6_append_17 : decode cX6_append 17 = .ok (.iconst 1, 1) := by decide +kernel
theorem dX6_append_18 : decode cX6_append 18 = .ok (.invokevirtual 114, 3) := by decide +kernel
theorem dX6_append_21 : decode cX6_append 21 = .ok (.ireturn, 1) := by decide +kernel
theorem dX6_append_22 : decode cX6_append 22 = .ok (.aload_n 0, 1) := by decide +kernel
theorem dX6_append_23 : decode cX6_append 23 = .ok (.getfield 141, 3) := by decide +kernel
theorem dX6_append_26 : decode cX6_append 26 = .ok (.bipush 60, 2) := by decide +kernel
theorem dX6_append_28 : decode cX6_append 28 = .ok (.if_icmp .ne 9, 3) := by decide +kernel
theorem dX6_append_31 : decode cX6_append 31 = .ok (.aload_n 0, 1) := by decide +kernel
theorem dX6_append_32 : decode cX6_append 32 = .ok (.iconst 2, 1) := by decide +kernel
theorem dX6_append_33 : decode cX6_append 33 = .ok (.invokevirtual 114, 3) := by decide +kernel
theorem dX6_append_36 : decode cX6_append 36 = .ok (.ireturn, 1) := by decide +kernel
theorem dX6_append_37 : decode cX6_append 37 = .ok (.aload_n 0, 1) := by decide +kernel
theorem dX6_append_38 : decode cX6_append 38 = .ok (.getfield 19, 3) := by decide +kernel
theorem dX6_append_41 : decode cX6_append 41 = .ok (.aload_n 0, 1) := by decide +kernel
theorem dX6_append_42 : decode cX6_append 42 = .ok (.getfield 141, 3) := by decide +kernel
theorem dX6_append_45 : decode cX6_append 45 = .ok (.iload_n 1, 1) := by decide +kernel
theorem dX6_append_46 : decode cX6_append 46 = .ok (.iastore, 1) := by decide +kernel
theorem dX6_append_47 : decode cX6_append 47 = .ok (.aload_n 0, 1) := by decide +kernel
theorem dX6_append_48 : decode cX6_append 48 = .ok (.dup, 1) := by decide +kernel
theorem dX6_append_49 : decode cX6_append 49 = .ok (.getfield 141, 3) := by decide +kernel
theorem dX6_append_52 : decode cX6_append 52 = .ok (.iconst 1, 1) := by decide +kernel
theorem dX6_append_53 : decode cX6_append 53 = .ok (.iadd, 1) := by decide +kernel
theorem dX6_append_54 : decode cX6_append 54 = .ok (.putfield 141, 3) := by decide +kernel
theorem dX6_append_57 : decode cX6_append 57 = .ok (.aload_n 0, 1) := by decide +kernel
theorem dX6_append_58 : decode cX6_append 58 = .ok (.getfield 141, 3) := by decide +kernel
theorem dX6_append_61 : decode cX6_append 61 = .ok (.ireturn, 1) := by decide +kernel
theorem dX6_clearBuffer_0 : decode cX6_clearBuffer 0 = .ok (.aload_n 0, 1) := by decide +kernel
theorem dX6_clearBuffer_1 : decode cX6_clearBuffer 1 = .ok (.iconst 0, 1) := by decide +kernel
theorem dX6_clearBuffer_2 : decode cX6_clearBuffer 2 = .ok (.putfield 28, 3) := by decide +kernel
theorem dX6_clearBuffer_5 : decode cX6_clearBuffer 5 = .ok (.aload_n 0, 1) := by decide +kernel
theorem dX6_clearBuffer_6 : decode cX6_clearBuffer 6 = .ok (.getfield 141, 3) := by decide +kernel
theorem dX6_clearBuffer_9 : decode cX6_clearBuffer 9 = .ok (.istore_n 1, 1) := by decide +kernel
theorem dX6_clearBuffer_10 : decode cX6_clearBuffer 10 = .ok (.aload_n 0, 1) := by decide +kernel
theorem dX6_clearBuffer_11 : decode cX6_clearBuffer 11 = .ok (.iconst 0, 1) := by decide +kernel
theorem dX6_clearBuffer_12 : decode cX6_clearBuffer 12 = .ok (.putfield 141, 3) := by decide +kernel
theorem dX6_clearBuffer_15 : decode cX6_clearBuffer 15 = .ok (.iload_n 1, 1) := by decide +kernel
theorem dX6_clearBuffer_16 : decode cX6_clearBuffer 16 = .ok (.ireturn, 1) := by decide +kernel
theorem dX6_next_0 : decode cX6_next 0 = .ok (.aload_n 0, 1) := by decide +kernel
theorem dX6_next_1 : decode cX6_next 1 = .ok (.getfield 144, 3) := by decide +kernel
theorem dX6_next_4 : decode cX6_next 4 = .ok (.aload_n 0, 1) := by decide +kernel
theorem dX6_next_5 : decode cX6_next 5 = .ok (.getfield 141, 3) := by decide +kernel
theorem dX6_next_8 : decode cX6_next 8 = .ok (.if_icmp .ge 15, 3) := by decide +kernel
theorem dX6_next_11 : decode cX6_next 11 = .ok (.aload_n 0, 1) := by decide +kernel
theorem dX6_next_12 : decode cX6_next 12 = .ok (.getfield 19, 3) := by decide +kernel
theorem dX6_next_15 : decode cX6_next 15 = .ok (.aload_n 0, 1) := by decide +kernel
theorem dX6_next_16 : decode cX6_next 16 = .ok (.getfield 144, 3) := by decide +kernel
theorem dX6_next_19 : decode cX6_next 19 = .ok (.iaload, 1) := by decide +kernel
theorem dX6_next_20 : decode cX6_next 20 = .ok (.goto 4, 3) := by decide +kernel
theorem dX6_next_23 : decode cX6_next 23 = .ok (.iconst 0, 1) := by decide +kernel
theorem dX6_next_24 : decode cX6_next 24 = .ok (.ireturn, 1) := by decide +kernel
theorem dX6_takes_0 : decode cX6_takes 0 = .ok (.aload_n 0, 1) := by decide +kernel
theorem dX6_takes_1 : decode cX6_takes 1 = .ok (.invokevirtual 147, 3) := by decide +kernel
theorem dX6_takes_4 : decode cX6_takes 4 = .ok (.iload_n 1, 1) := by decide +kernel
theorem dX6_takes_5 : decode cX6_takes 5 = .ok (.if_icmp .ne 7, 3) := by decide +kernel
theorem dX6_takes_8 : decode cX6_takes 8 = .ok (.iconst 1, 1) := by decide +kernel
theorem dX6_takes_9 : decode cX6_takes 9 = .ok (.goto 4, 3) := by decide +kernel
theorem dX6_takes_12 : decode cX6_takes 12 = .ok (.iconst 0, 1) := by decide +kernel
theorem dX6_takes_13 : decode cX6_takes 13 = .ok (.istore_n 2, 1) := by decide +kernel
theorem dX6_takes_14 : decode cX6_takes 14 = .ok (.aload_n 0, 1) := by decide +kernel
theorem dX6_takes_15 : decode cX6_takes 15 = .ok (.dup, 1) := by decide +kernel
theorem dX6_takes_16 : decode cX6_takes 16 = .ok (.getfield 144, 3) := by decide +kernel
theorem dX6_takes_19 : decode cX6_takes 19 = .ok (.iload_n 2, 1) := by decide +kernel
theorem dX6_takes_20 : decode cX6_takes 20 = .ok (.ifCond .eq 7, 3) := by decide +kernel
theorem dX6_takes_23 : decode cX6_takes 23 = .ok (.iconst 1, 1) := by decide +kernel
theorem dX6_takes_24 : decode cX6_takes 24 = .ok (.goto 4, 3) := by decide +kernel
theorem dX6_takes_27 : decode cX6_takes 27 = .ok (.iconst 0, 1) := by decide +kernel
theorem dX6_takes_28 : decode cX6_takes 28 = .ok (.iadd, 1) := by decide +kernel
theorem dX6_takes_29 : decode cX6_takes 29 = .ok (.putfield 144, 3) := by decide +kernel
theorem dX6_takes_32 : decode cX6_takes 32 = .ok (.iload_n 2, 1) := by decide +kernel
theorem dX6_takes_33 : decode cX6_takes 33 = .ok (.ireturn, 1) := by decide +kernel
theorem dX6_number_0 : decode cX6_number 0 = .ok (.iconst (-1), 1) := by decide +kernel
theorem dX6_number_1 : decode cX6_number 1 = .ok (.istore_n 3, 1) := by decide +kernel
theorem dX6_number_2 : decode cX6_number 2 = .ok (.iconst 1, 1) := by decide +kernel
theorem dX6_number_3 : decode cX6_number 3 = .ok (.istore 4, 2) := by decide +kernel
theorem dX6_number_5 : decode cX6_number 5 = .ok (.iload 4, 2) := by decide +kernel
theorem dX6_number_7 : decode cX6_number 7 = .ok (.ifCond .eq 97, 3) := by decide +kernel
theorem dX6_number_10 : decode cX6_number 10 = .ok (.aload_n 0, 1) := by decide +kernel
theorem dX6_number_11 : decode cX6_number 11 = .ok (.invokevirtual 147, 3) := by decide +kernel
theorem dX6_number_14 : decode cX6_number 14 = .ok (.bipush 48, 2) := by decide +kernel
theorem dX6_number_16 : decode cX6_number 16 = .ok (.isub, 1) := by decide +kernel
theorem dX6_number_17 : decode cX6_number 17 = .ok (.istore 5, 2) := by decide +kernel
theorem dX6_number_19 : decode cX6_number 19 = .ok (.iload_n 3, 1) := by decide +kernel
theorem dX6_number_20 : decode cX6_number 20 = .ok (.iconst (-1), 1) := by decide +kernel
theorem dX6_number_21 : decode cX6_number 21 = .ok (.if_icmp .ne 8, 3) := by decide +kernel
theorem dX6_number_24 : decode cX6_number 24 = .ok (.iload 5, 2) := by decide +kernel
theorem dX6_number_26 : decode cX6_number 26 = .ok (.goto 10, 3) := by decide +kernel
theorem dX6_number_29 : decode cX6_number 29 = .ok (.bipush 10, 2) := by decide +kernel
theorem dX6_number_31 : decode cX6_number 31 = .ok (.iload_n 3, 1) := by decide +kernel
theorem dX6_number_32 : decode cX6_number 32 = .ok (.imul, 1) := by decide +kernel
theorem dX6_number_33 : decode cX6_number 33 = .ok (.iload 5, 2) := by decide +kernel
theorem dX6_number_35 : decode cX6_number 35 = .ok (.iadd, 1) := by decide +kernel
theorem dX6_number_36 : decode cX6_number 36 = .ok (.istore 6, 2) := by decide +kernel
theorem dX6_number_38 : decode cX6_number 38 = .ok (.iload 5, 2) := by decide +kernel
theorem dX6_number_40 : decode cX6_number 40 = .ok (.iconst 0, 1) := by decide +kernel
theorem dX6_number_41 : decode cX6_number 41 = .ok (.bipush 9, 2) := by decide +kernel
theorem dX6_number_43 : decode cX6_number 43 = .ok (.invokestatic 35, 3) := by decide +kernel
theorem dX6_number_46 : decode cX6_number 46 = .ok (.ifCond .eq 21, 3) := by decide +kernel
theorem dX6_number_49 : decode cX6_number 49 = .ok (.iload_n 3, 1) := by decide +kernel
theorem dX6_number_50 : decode cX6_number 50 = .ok (.ifCond .eq 17, 3) := by decide +kernel
theorem dX6_number_53 : decode cX6_number 53 = .ok (.iload 6, 2) := by decide +kernel
theorem dX6_number_55 : decode cX6_number 55 = .ok (.iload_n 1, 1) := by decide +kernel
theorem dX6_number_56 : decode cX6_number 56 = .ok (.iload_n 2, 1) := by decide +kernel
theorem dX6_number_57 : decode cX6_number 57 = .ok (.invokestatic 35, 3) := by decide +kernel
theorem dX6_number_60 : decode cX6_number 60 = .ok (.ifCond .eq 7, 3) := by decide +kernel
theorem dX6_number_63 : decode cX6_number 63 = .ok (.iconst 1, 1) := by decide +kernel
theorem dX6_number_64 : decode cX6_number 64 = .ok (.goto 4, 3) := by decide +kernel
theorem dX6_number_67 : decode cX6_number 67 = .ok (.iconst 0, 1) := by decide +kernel
theorem dX6_number_68 : decode cX6_number 68 = .ok (.istore 4, 2) := by decide +kernel
theorem dX6_number_70 : decode cX6_number 70 = .ok (.iload 4, 2) := by decide +kernel
theorem dX6_number_72 : decode cX6_number 72 = .ok (.ifCond .eq 8, 3) := by decide +kernel
theorem dX6_number_75 : decode cX6_number 75 = .ok (.iload 6, 2) := by decide +kernel
theorem dX6_number_77 : decode cX6_number 77 = .ok (.goto 4, 3) := by decide +kernel
theorem dX6_number_80 : decode cX6_number 80 = .ok (.iload_n 3, 1) := by decide +kernel
theorem dX6_number_81 : decode cX6_number 81 = .ok (.istore_n 3, 1) := by decide +kernel
theorem dX6_number_82 : decode cX6_number 82 = .ok (.aload_n 0, 1) := by decide +kernel
theorem dX6_number_83 : decode cX6_number 83 = .ok (.dup, 1) := by decide +kernel
theorem dX6_number_84 : decode cX6_number 84 = .ok (.getfield 144, 3) := by decide +kernel
theorem dX6_number_87 : decode cX6_number 87 = .ok (.iload 4, 2) := by decide +kernel
theorem dX6_number_89 : decode cX6_number 89 = .ok (.ifCond .eq 7, 3) := by decide +kernel
theorem dX6_number_92 : decode cX6_number 92 = .ok (.iconst 1, 1) := by decide +kernel
theorem dX6_number_93 : decode cX6_number 93 = .ok (.goto 4, 3) := by decide +kernel
theorem dX6_number_96 : decode cX6_number 96 = .ok (.iconst 0, 1) := by decide +kernel
theorem dX6_number_97 : decode cX6_number 97 = .ok (.iadd, 1) := by decide +kernel
theorem dX6_number_98 : decode cX6_number 98 = .ok (.putfield 144, 3) := by decide +kernel
theorem dX6_number_101 : decode cX6_number 101 = .ok (.goto (-96), 3) := by decide +kernel
theorem dX6_number_104 : decode cX6_number 104 = .ok (.iload_n 3, 1) := by decide +kernel
theorem dX6_number_105 : decode cX6_number 105 = .ok (.ireturn, 1) := by decide +kernel
theorem dX6_tasks_0 : decode cX6_tasks 0 = .ok (.aload_n 0, 1) := by decide +kernel
theorem dX6_tasks_1 : decode cX6_tasks 1 = .ok (.getfield 25, 3) := by decide +kernel
theorem dX6_tasks_4 : decode cX6_tasks 4 = .ok (.iload_n 1, 1) := by decide +kernel
theorem dX6_tasks_5 : decode cX6_tasks 5 = .ok (.iconst 2, 1) := by decide +kernel
theorem dX6_tasks_6 : decode cX6_tasks 6 = .ok (.iadd, 1) := by decide +kernel
theorem dX6_tasks_7 : decode cX6_tasks 7 = .ok (.iconst 0, 1) := by decide +kernel
theorem dX6_tasks_8 : decode cX6_tasks 8 = .ok (.iastore, 1) := by decide +kernel
theorem dX6_tasks_9 : decode cX6_tasks 9 = .ok (.iconst 1, 1) := by decide +kernel
theorem dX6_tasks_10 : decode cX6_tasks 10 = .ok (.istore_n 2, 1) := by decide +kernel
theorem dX6_tasks_11 : decode cX6_tasks 11 = .ok (.iconst 1, 1) := by decide +kernel
theorem dX6_tasks_12 : decode cX6_tasks 12 = .ok (.istore_n 3, 1) := by decide +kernel
theorem dX6_tasks_13 : decode cX6_tasks 13 = .ok (.iload_n 2, 1) := by decide +kernel
theorem dX6_tasks_14 : decode cX6_tasks 14 = .ok (.ifCond .eq 94, 3) := by decide +kernel
theorem dX6_tasks_17 : decode cX6_tasks 17 = .ok (.aload_n 0, 1) := by decide +kernel
theorem dX6_tasks_18 : decode cX6_tasks 18 = .ok (.iconst 1, 1) := by decide +kernel
theorem dX6_tasks_19 : decode cX6_tasks 19 = .ok (.bipush 60, 2) := by decide +kernel
theorem dX6_tasks_21 : decode cX6_tasks 21 = .ok (.invokevirtual 151, 3) := by decide +kernel
theorem dX6_tasks_24 : decode cX6_tasks 24 = .ok (.istore 4, 2) := by decide +kernel
theorem dX6_tasks_26 : decode cX6_tasks 26 = .ok (.iload 4, 2) := by decide +kernel
theorem dX6_tasks_28 : decode cX6_tasks 28 = .ok (.iconst (-1), 1) := by decide +kernel
theorem dX6_tasks_29 : decode cX6_tasks 29 = .ok (.if_icmp .eq 7, 3) := by decide +kernel
theorem dX6_tasks_32 : decode cX6_tasks 32 = .ok (.iconst 1, 1) := by decide +kernel
theorem dX6_tasks_33 : decode cX6_tasks 33 = .ok (.goto 4, 3) := by decide +kernel
theorem dX6_tasks_36 : decode cX6_tasks 36 = .ok (.iconst 0, 1) := by decide +kernel
theorem dX6_tasks_37 : decode cX6_tasks 37 = .ok (.istore_n 3, 1) := by decide +kernel
theorem dX6_tasks_38 : decode cX6_tasks 38 = .ok (.iload_n 3, 1) := by decide +kernel
theorem dX6_tasks_39 : decode cX6_tasks 39 = .ok (.ifCond .eq 34, 3) := by decide +kernel
theorem dX6_tasks_42 : decode cX6_tasks 42 = .ok (.aload_n 0, 1) := by decide +kernel
theorem dX6_tasks_43 : decode cX6_tasks 43 = .ok (.getfield 25, 3) := by decide +kernel
theorem dX6_tasks_46 : decode cX6_tasks 46 = .ok (.iload_n 1, 1) := by decide +kernel
theorem dX6_tasks_47 : decode cX6_tasks 47 = .ok (.iconst 3, 1) := by decide +kernel
theorem dX6_tasks_48 : decode cX6_tasks 48 = .ok (.iadd, 1) := by decide +kernel
theorem dX6_tasks_49 : decode cX6_tasks 49 = .ok (.aload_n 0, 1) := by decide +kernel
theorem dX6_tasks_50 : decode cX6_tasks 50 = .ok (.getfield 25, 3) := by decide +kernel
theorem dX6_tasks_53 : decode cX6_tasks 53 = .ok (.iload_n 1, 1) := by decide +kernel
theorem dX6_tasks_54 : decode cX6_tasks 54 = .ok (.iconst 2, 1) := by decide +kernel
theorem dX6_tasks_55 : decode cX6_tasks 55 = .ok (.iadd, 1) := by decide +kernel
theorem dX6_tasks_56 : decode cX6_tasks 56 = .ok (.iaload, 1) := by decide +kernel
theorem dX6_tasks_57 : decode cX6_tasks 57 = .ok (.iadd, 1) := by decide +kernel
theorem dX6_tasks_58 : decode cX6_tasks 58 = .ok (.iload 4, 2) := by decide +kernel
theorem dX6_tasks_60 : decode cX6_tasks 60 = .ok (.iastore, 1) := by decide +kernel
theorem dX6_tasks_61 : decode cX6_tasks 61 = .ok (.aload_n 0, 1) := by decide +kernel
theorem dX6_tasks_62 : decode cX6_tasks 62 = .ok (.getfield 25, 3) := by decide +kernel
theorem dX6_tasks_65 : decode cX6_tasks 65 = .ok (.iload_n 1, 1) := by decide +kernel
theorem dX6_tasks_66 : decode cX6_tasks 66 = .ok (.iconst 2, 1) := by decide +kernel
theorem dX6_tasks_67 : decode cX6_tasks 67 = .ok (.iadd, 1) := by decide +kernel
theorem dX6_tasks_68 : decode cX6_tasks 68 = .ok (.dup2, 1) := by decide +kernel
theorem dX6_tasks_69 : decode cX6_tasks 69 = .ok (.iaload, 1) := by decide +kernel
theorem dX6_tasks_70 : decode cX6_tasks 70 = .ok (.iconst 1, 1) := by decide +kernel
theorem dX6_tasks_71 : decode cX6_tasks 71 = .ok (.iadd, 1) := by decide +kernel
theorem dX6_tasks_72 : decode cX6_tasks 72 = .ok (.iastore, 1) := by decide +kernel
theorem dX6_tasks_73 : decode cX6_tasks 73 = .ok (.iload_n 3, 1) := by decide +kernel
theorem dX6_tasks_74 : decode cX6_tasks 74 = .ok (.ifCond .eq 29, 3) := by decide +kernel
theorem dX6_tasks_77 : decode cX6_tasks 77 = .ok (.aload_n 0, 1) := by decide +kernel
theorem dX6_tasks_78 : decode cX6_tasks 78 = .ok (.getfield 25, 3) := by decide +kernel
theorem dX6_tasks_81 : decode cX6_tasks 81 = .ok (.iload_n 1, 1) := by decide +kernel
theorem dX6_tasks_82 : decode cX6_tasks 82 = .ok (.iconst 2, 1) := by decide +kernel
theorem dX6_tasks_83 : decode cX6_tasks 83 = .ok (.iadd, 1) := by decide +kernel
theorem dX6_tasks_84 : decode cX6_tasks 84 = .ok (.iaload, 1) := by decide +kernel
theorem dX6_tasks_85 : decode cX6_tasks 85 = .ok (.bipush 8, 2) := by decide +kernel
theorem dX6_tasks_87 : decode cX6_tasks 87 = .ok (.if_icmp .ge 16, 3) := by decide +kernel
theorem dX6_tasks_90 : decode cX6_tasks 90 = .ok (.aload_n 0, 1) := by decide +kernel
theorem dX6_tasks_91 : decode cX6_tasks 91 = .ok (.bipush 43, 2) := by decide +kernel
theorem dX6_tasks_93 : decode cX6_tasks 93 = .ok (.invokevirtual 154, 3) := by decide +kernel
theorem dX6_tasks_96 : decode cX6_tasks 96 = .ok (.ifCond .eq 7, 3) := by decide +kernel
theorem dX6_tasks_99 : decode cX6_tasks 99 = .ok (.iconst 1, 1) := by decide +kernel
theorem dX6_tasks_100 : decode cX6_tasks 100 = .ok (.goto 4, 3) := by decide +kernel
theorem dX6_tasks_103 : decode cX6_tasks 103 = .ok (.iconst 0, 1) := by decide +kernel
theorem dX6_tasks_104 : decode cX6_tasks 104 = .ok (.istore_n 2, 1) := by decide +kernel
theorem dX6_tasks_105 : decode cX6_tasks 105 = .ok (.goto (-92), 3) := by decide +kernel
theorem dX6_tasks_108 : decode cX6_tasks 108 = .ok (.iload_n 3, 1) := by decide +kernel
theorem dX6_tasks_109 : decode cX6_tasks 109 = .ok (.ireturn, 1) := by decide +kernel
theorem dX6_readProject_0 : decode cX6_readProject 0 = .ok (.bipush 11, 2) := by decide +kernel
theorem dX6_readProject_2 : decode cX6_readProject 2 = .ok (.aload_n 0, 1) := by decide +kernel
theorem dX6_readProject_3 : decode cX6_readProject 3 = .ok (.getfield 157, 3) := by decide +kernel
theorem dX6_readProject_6 : decode cX6_readProject 6 = .ok (.bipush 9, 2) := by decide +kernel
theorem dX6_readProject_8 : decode cX6_readProject 8 = .ok (.if_icmp .ge 10, 3) := by decide +kernel
theorem dX6_readProject_11 : decode cX6_readProject 11 = .ok (.aload_n 0, 1) := by decide +kernel
theorem dX6_readProject_12 : decode cX6_readProject 12 = .ok (.getfield 157, 3) := by decide +kernel
theorem dX6_readProject_15 : decode cX6_readProject 15 = .ok (.goto 5, 3) := by decide +kernel
theorem dX6_readProject_18 : decode cX6_readProject 18 = .ok (.bipush 9, 2) := by decide +kernel
theorem dX6_readProject_20 : decode cX6_readProject 20 = .ok (.imul, 1) := by decide +kernel
theorem dX6_readProject_21 : decode cX6_readProject 21 = .ok (.istore_n 1, 1) := by decide +kernel
theorem dX6_readProject_22 : decode cX6_readProject 22 = .ok (.aload_n 0, 1) := by decide +kernel
theorem dX6_readProject_23 : decode cX6_readProject 23 = .ok (.getfield 25, 3) := by decide +kernel
theorem dX6_readProject_26 : decode cX6_readProject 26 = .ok (.iload_n 1, 1) := by decide +kernel
theorem dX6_readProject_27 : decode cX6_readProject 27 = .ok (.aload_n 0, 1) := by decide +kernel
theorem dX6_readProject_28 : decode cX6_readProject 28 = .ok (.iconst 1, 1) := by decide +kernel
theorem dX6_readProject_29 : decode cX6_readProject 29 = .ok (.bipush 9, 2) := by decide +kernel
theorem dX6_readProject_31 : decode cX6_readProject 31 = .ok (.invokevirtual 151, 3) := by decide +kernel
theorem dX6_readProject_34 : decode cX6_readProject 34 = .ok (.iastore, 1) := by decide +kernel
theorem dX6_readProject_35 : decode cX6_readProject 35 = .ok (.aload_n 0, 1) := by decide +kernel
theorem dX6_readProject_36 : decode cX6_readProject 36 = .ok (.getfield 25, 3) := by decide +kernel
theorem dX6_readProject_39 : decode cX6_readProject 39 = .ok (.iload_n 1, 1) := by decide +kernel
theorem dX6_readProject_40 : decode cX6_readProject 40 = .ok (.iaload, 1) := by decide +kernel
theorem dX6_readProject_41 : decode cX6_readProject 41 = .ok (.iconst (-1), 1) := by decide +kernel
theorem dX6_readProject_42 : decode cX6_readProject 42 = .ok (.if_icmp .eq 12, 3) := by decide +kernel
theorem dX6_readProject_45 : decode cX6_readProject 45 = .ok (.aload_n 0, 1) := by decide +kernel
theorem dX6_readProject_46 : decode cX6_readProject 46 = .ok (.bipush 58, 2) := by decide +kernel
theorem dX6_readProject_48 : decode cX6_readProject 48 = .ok (.invokevirtual 154, 3) := by decide +kernel
theorem dX6_readProject_51 : decode cX6_readProject 51 = .ok (.ifCond .ne 5, 3) := by decide +kernel
theorem dX6_readProject_54 : decode cX6_readProject 54 = .ok (.iconst 0, 1) := by decide +kernel
theorem dX6_readProject_55 : decode cX6_readProject 55 = .ok (.ireturn, 1) := by decide +kernel
theorem dX6_readProject_56 : decode cX6_readProject 56 = .ok (.aload_n 0, 1) := by decide +kernel
theorem dX6_readProject_57 : decode cX6_readProject 57 = .ok (.getfield 25, 3) := by decide +kernel
theorem dX6_readProject_60 : decode cX6_readProject 60 = .ok (.iload_n 1, 1) := by decide +kernel
theorem dX6_readProject_61 : decode cX6_readProject 61 = .ok (.iconst 1, 1) := by decide +kernel
theorem dX6_readProject_62 : decode cX6_readProject 62 = .ok (.iadd, 1) := by decide +kernel
theorem dX6_readProject_63 : decode cX6_readProject 63 = .ok (.aload_n 0, 1) := by decide +kernel
theorem dX6_readProject_64 : decode cX6_readProject 64 = .ok (.iconst 0, 1) := by decide +kernel
theorem dX6_readProject_65 : decode cX6_readProject 65 = .ok (.bipush 99, 2) := by decide +kernel
theorem dX6_readProject_67 : decode cX6_readProject 67 = .ok (.invokevirtual 151, 3) := by decide +kernel
theorem dX6_readProject_70 : decode cX6_readProject 70 = .ok (.iastore, 1) := by decide +kernel
theorem dX6_readProject_71 : decode cX6_readProject 71 = .ok (.aload_n 0, 1) := by decide +kernel
theorem dX6_readProject_72 : decode cX6_readProject 72 = .ok (.getfield 25, 3) := by decide +kernel
theorem dX6_readProject_75 : decode cX6_readProject 75 = .ok (.iload_n 1, 1) := by decide +kernel
theorem dX6_readProject_76 : decode cX6_readProject 76 = .ok (.iconst 1, 1) := by decide +kernel
theorem dX6_readProject_77 : decode cX6_readProject 77 = .ok (.iadd, 1) := by decide +kernel
theorem dX6_readProject_78 : decode cX6_readProject 78 = .ok (.iaload, 1) := by decide +kernel
theorem dX6_readProject_79 : decode cX6_readProject 79 = .ok (.iconst (-1), 1) := by decide +kernel
theorem dX6_readProject_80 : decode cX6_readProject 80 = .ok (.if_icmp .eq 12, 3) := by decide +kernel
theorem dX6_readProject_83 : decode cX6_readProject 83 = .ok (.aload_n 0, 1) := by decide +kernel
theorem dX6_readProject_84 : decode cX6_readProject 84 = .ok (.bipush 58, 2) := by decide +kernel
theorem dX6_readProject_86 : decode cX6_readProject 86 = .ok (.invokevirtual 154, 3) := by decide +kernel
theorem dX6_readProject_89 : decode cX6_readProject 89 = .ok (.ifCond .ne 5, 3) := by decide +kernel
theorem dX6_readProject_92 : decode cX6_readProject 92 = .ok (.iconst 0, 1) := by decide +kernel
theorem dX6_readProject_93 : decode cX6_readProject 93 = .ok (.ireturn, 1) := by decide +kernel
theorem dX6_readProject_94 : decode cX6_readProject 94 = .ok (.aload_n 0, 1) := by decide +kernel
theorem dX6_readProject_95 : decode cX6_readProject 95 = .ok (.dup, 1) := by decide +kernel
theorem dX6_readProject_96 : decode cX6_readProject 96 = .ok (.getfield 157, 3) := by decide +kernel
theorem dX6_readProject_99 : decode cX6_readProject 99 = .ok (.iconst 1, 1) := by decide +kernel
theorem dX6_readProject_100 : decode cX6_readProject 100 = .ok (.iadd, 1) := by decide +kernel
theorem dX6_readProject_101 : decode cX6_readProject 101 = .ok (.putfield 157, 3) := by decide +kernel
theorem dX6_readProject_104 : decode cX6_readProject 104 = .ok (.aload_n 0, 1) := by decide +kernel
theorem dX6_readProject_105 : decode cX6_readProject 105 = .ok (.iload_n 1, 1) := by decide +kernel
theorem dX6_readProject_106 : decode cX6_readProject 106 = .ok (.invokevirtual 160, 3) := by decide +kernel
theorem dX6_readProject_109 : decode cX6_readProject 109 = .ok (.ireturn, 1) := by decide +kernel
theorem dX6_isPlan_0 : decode cX6_isPlan 0 = .ok (.aload_n 0, 1) := by decide +kernel
theorem dX6_isPlan_1 : decode cX6_isPlan 1 = .ok (.iconst 0, 1) := by decide +kernel
theorem dX6_isPlan_2 : decode cX6_isPlan 2 = .ok (.putfield 144, 3) := by decide +kernel
theorem dX6_isPlan_5 : decode cX6_isPlan 5 = .ok (.aload_n 0, 1) := by decide +kernel
theorem dX6_isPlan_6 : decode cX6_isPlan 6 = .ok (.iconst 0, 1) := by decide +kernel
theorem dX6_isPlan_7 : decode cX6_isPlan 7 = .ok (.putfield 157, 3) := by decide +kernel
theorem dX6_isPlan_10 : decode cX6_isPlan 10 = .ok (.aload_n 0, 1) := by decide +kernel
theorem dX6_isPlan_11 : decode cX6_isPlan 11 = .ok (.invokevirtual 163, 3) := by decide +kernel
theorem dX6_isPlan_14 : decode cX6_isPlan 14 = .ok (.istore_n 1, 1) := by decide +kernel
theorem dX6_isPlan_15 : decode cX6_isPlan 15 = .ok (.iload_n 1, 1) := by decide +kernel
theorem dX6_isPlan_16 : decode cX6_isPlan 16 = .ok (.ifCond .eq 20, 3) := by decide +kernel
theorem dX6_isPlan_19 : decode cX6_isPlan 19 = .ok (.aload_n 0, 1) := by decide +kernel
theorem dX6_isPlan_20 : decode cX6_isPlan 20 = .ok (.bipush 59, 2) := by decide +kernel
theorem dX6_isPlan_22 : decode cX6_isPlan 22 = .ok (.invokevirtual 154, 3) := by decide +kernel
theorem dX6_isPlan_25 : decode cX6_isPlan 25 = .ok (.ifCond .eq 11, 3) := by decide +kernel
theorem dX6_isPlan_28 : decode cX6_isPlan 28 = .ok (.aload_n 0, 1) := by decide +kernel
theorem dX6_isPlan_29 : decode cX6_isPlan 29 = .ok (.invokevirtual 163, 3) := by decide +kernel
theorem dX6_isPlan_32 : decode cX6_isPlan 32 = .ok (.istore_n 1, 1) := by decide +kernel
theorem dX6_isPlan_33 : decode cX6_isPlan 33 = .ok (.goto (-18), 3) := by decide +kernel
theorem dX6_isPlan_36 : decode cX6_isPlan 36 = .ok (.iload_n 1, 1) := by decide +kernel
theorem dX6_isPlan_37 : decode cX6_isPlan 37 = .ok (.ifCond .eq 18, 3) := by decide +kernel
theorem dX6_isPlan_40 : decode cX6_isPlan 40 = .ok (.aload_n 0, 1) := by decide +kernel
theorem dX6_isPlan_41 : decode cX6_isPlan 41 = .ok (.getfield 144, 3) := by decide +kernel
theorem dX6_isPlan_44 : decode cX6_isPlan 44 = .ok (.aload_n 0, 1) := by decide +kernel
theorem dX6_isPlan_45 : decode cX6_isPlan 45 = .ok (.getfield 141, 3) := by decide +kernel
theorem dX6_isPlan_48 : decode cX6_isPlan 48 = .ok (.if_icmp .ne 7, 3) := by decide +kernel
theorem dX6_isPlan_51 : decode cX6_isPlan 51 = .ok (.iconst 1, 1) := by decide +kernel
theorem dX6_isPlan_52 : decode cX6_isPlan 52 = .ok (.goto 4, 3) := by decide +kernel
theorem dX6_isPlan_55 : decode cX6_isPlan 55 = .ok (.iconst 0, 1) := by decide +kernel
theorem dX6_isPlan_56 : decode cX6_isPlan 56 = .ok (.ireturn, 1) := by decide +kernel
theorem dX6_firstError_0 : decode cX6_firstError 0 = .ok (.aload_n 0, 1) := by decide +kernel
theorem dX6_firstError_1 : decode cX6_firstError 1 = .ok (.iconst 0, 1) := by decide +kernel
theorem dX6_firstError_2 : decode cX6_firstError 2 = .ok (.putfield 28, 3) := by decide +kernel
theorem dX6_firstError_5 : decode cX6_firstError 5 = .ok (.aload_n 0, 1) := by decide +kernel
theorem dX6_firstError_6 : decode cX6_firstError 6 = .ok (.invokevirtual 167, 3) := by decide +kernel
theorem dX6_firstError_9 : decode cX6_firstError 9 = .ok (.ifCond .eq 10, 3) := by decide +kernel
theorem dX6_firstError_12 : decode cX6_firstError 12 = .ok (.aload_n 0, 1) := by decide +kernel
theorem dX6_firstError_13 : decode cX6_firstError 13 = .ok (.getfield 141, 3) := by decide +kernel
theorem dX6_firstError_16 : decode cX6_firstError 16 = .ok (.goto 7, 3) := by decide +kernel
theorem dX6_firstError_19 : decode cX6_firstError 19 = .ok (.aload_n 0, 1) := by decide +kernel
theorem dX6_firstError_20 : decode cX6_firstError 20 = .ok (.getfield 144, 3) := by decide +kernel
theorem dX6_firstError_23 : decode cX6_firstError 23 = .ok (.ireturn, 1) := by decide +kernel
theorem dX6_openAll_0 : decode cX6_openAll 0 = .ok (.aload_n 0, 1) := by decide +kernel
theorem dX6_openAll_1 : decode cX6_openAll 1 = .ok (.iconst 0, 1) := by decide +kernel
theorem dX6_openAll_2 : decode cX6_openAll 2 = .ok (.putfield 28, 3) := by decide +kernel
theorem dX6_openAll_5 : decode cX6_openAll 5 = .ok (.aload_n 0, 1) := by decide +kernel
theorem dX6_openAll_6 : decode cX6_openAll 6 = .ok (.invokevirtual 167, 3) := by decide +kernel
theorem dX6_openAll_9 : decode cX6_openAll 9 = .ok (.ifCond .ne 9, 3) := by decide +kernel
theorem dX6_openAll_12 : decode cX6_openAll 12 = .ok (.aload_n 0, 1) := by decide +kernel
theorem dX6_openAll_13 : decode cX6_openAll 13 = .ok (.iconst 1, 1) := by decide +kernel
theorem dX6_openAll_14 : decode cX6_openAll 14 = .ok (.invokevirtual 114, 3) := by decide +kernel
theorem dX6_openAll_17 : decode cX6_openAll 17 = .ok (.ireturn, 1) := by decide +kernel
theorem dX6_openAll_18 : decode cX6_openAll 18 = .ok (.aload_n 0, 1) := by decide +kernel
theorem dX6_openAll_19 : decode cX6_openAll 19 = .ok (.getfield 7, 3) := by decide +kernel
theorem dX6_openAll_22 : decode cX6_openAll 22 = .ok (.iconst 0, 1) := by decide +kernel
theorem dX6_openAll_23 : decode cX6_openAll 23 = .ok (.iaload, 1) := by decide +kernel
theorem dX6_openAll_24 : decode cX6_openAll 24 = .ok (.aload_n 0, 1) := by decide +kernel
theorem dX6_openAll_25 : decode cX6_openAll 25 = .ok (.getfield 157, 3) := by decide +kernel
theorem dX6_openAll_28 : decode cX6_openAll 28 = .ok (.iadd, 1) := by decide +kernel
theorem dX6_openAll_29 : decode cX6_openAll 29 = .ok (.bipush 6, 2) := by decide +kernel
theorem dX6_openAll_31 : decode cX6_openAll 31 = .ok (.if_icmp .le 9, 3) := by decide +kernel
theorem dX6_openAll_34 : decode cX6_openAll 34 = .ok (.aload_n 0, 1) := by decide +kernel
theorem dX6_openAll_35 : decode cX6_openAll 35 = .ok (.iconst 2, 1) := by decide +kernel
theorem dX6_openAll_36 : decode cX6_openAll 36 = .ok (.invokevirtual 114, 3) := by decide +kernel
theorem dX6_openAll_39 : decode cX6_openAll 39 = .ok (.ireturn, 1) := by decide +kernel
theorem dX6_openAll_40 : decode cX6_openAll 40 = .ok (.aload_n 0, 1) := by decide +kernel
theorem dX6_openAll_41 : decode cX6_openAll 41 = .ok (.invokevirtual 117, 3) := by decide +kernel
theorem dX6_openAll_44 : decode cX6_openAll 44 = .ok (.iconst 0, 1) := by decide +kernel
theorem dX6_openAll_45 : decode cX6_openAll 45 = .ok (.istore_n 1, 1) := by decide +kernel
theorem dX6_openAll_46 : decode cX6_openAll 46 = .ok (.iload_n 1, 1) := by decide +kernel
theorem dX6_openAll_47 : decode cX6_openAll 47 = .ok (.aload_n 0, 1) := by decide +kernel
theorem dX6_openAll_48 : decode cX6_openAll 48 = .ok (.getfield 157, 3) := by decide +kernel
theorem dX6_openAll_51 : decode cX6_openAll 51 = .ok (.if_icmp .ge 74, 3) := by decide +kernel
theorem dX6_openAll_54 : decode cX6_openAll 54 = .ok (.bipush 11, 2) := by decide +kernel
theorem dX6_openAll_56 : decode cX6_openAll 56 = .ok (.iload_n 1, 1) := by decide +kernel
theorem dX6_openAll_57 : decode cX6_openAll 57 = .ok (.imul, 1) := by decide +kernel
theorem dX6_openAll_58 : decode cX6_openAll 58 = .ok (.istore_n 2, 1) := by decide +kernel
theorem dX6_openAll_59 : decode cX6_openAll 59 = .ok (.aload_n 0, 1) := by decide +kernel
theorem dX6_openAll_60 : decode cX6_openAll 60 = .ok (.aload_n 0, 1) := by decide +kernel
theorem dX6_openAll_61 : decode cX6_openAll 61 = .ok (.getfield 25, 3) := by decide +kernel
theorem dX6_openAll_64 : decode cX6_openAll 64 = .ok (.iload_n 2, 1) := by decide +kernel
theorem dX6_openAll_65 : decode cX6_openAll 65 = .ok (.iaload, 1) := by decide +kernel
theorem dX6_openAll_66 : decode cX6_openAll 66 = .ok (.aload_n 0, 1) := by decide +kernel
theorem dX6_openAll_67 : decode cX6_openAll 67 = .ok (.getfield 25, 3) := by decide +kernel
theorem dX6_openAll_70 : decode cX6_openAll 70 = .ok (.iload_n 2, 1) := by decide +kernel
theorem dX6_openAll_71 : decode cX6_openAll 71 = .ok (.iconst 1, 1) := by decide +kernel
theorem dX6_openAll_72 : decode cX6_openAll 72 = .ok (.iadd, 1) := by decide +kernel
theorem dX6_openAll_73 : decode cX6_openAll 73 = .ok (.iaload, 1) := by decide +kernel
theorem dX6_openAll_74 : decode cX6_openAll 74 = .ok (.invokevirtual 120, 3) := by decide +kernel
theorem dX6_openAll_77 : decode cX6_openAll 77 = .ok (.iconst 0, 1) := by decide +kernel
theorem dX6_openAll_78 : decode cX6_openAll 78 = .ok (.istore_n 3, 1) := by decide +kernel
theorem dX6_openAll_79 : decode cX6_openAll 79 = .ok (.iload_n 3, 1) := by decide +kernel
theorem dX6_openAll_80 : decode cX6_openAll 80 = .ok (.aload_n 0, 1) := by decide +kernel
theorem dX6_openAll_81 : decode cX6_openAll 81 = .ok (.getfield 25, 3) := by decide +kernel
theorem dX6_openAll_84 : decode cX6_openAll 84 = .ok (.iload_n 2, 1) := by decide +kernel
theorem dX6_openAll_85 : decode cX6_openAll 85 = .ok (.iconst 2, 1) := by decide +kernel
theorem dX6_openAll_86 : decode cX6_openAll 86 = .ok (.iadd, 1) := by decide +kernel
theorem dX6_openAll_87 : decode cX6_openAll 87 = .ok (.iaload, 1) := by decide +kernel
theorem dX6_openAll_88 : decode cX6_openAll 88 = .ok (.if_icmp .ge 31, 3) := by decide +kernel
theorem dX6_openAll_91 : decode cX6_openAll 91 = .ok (.aload_n 0, 1) := by decide +kernel
theorem dX6_openAll_92 : decode cX6_openAll 92 = .ok (.aload_n 0, 1) := by decide +kernel
theorem dX6_openAll_93 : decode cX6_openAll 93 = .ok (.getfield 7, 3) := by decide +kernel
theorem dX6_openAll_96 : decode cX6_openAll 96 = .ok (.iconst 0, 1) := by decide +kernel
theorem dX6_openAll_97 : decode cX6_openAll 97 = .ok (.iaload, 1) := by decide +kernel
theorem dX6_openAll_98 : decode cX6_openAll 98 = .ok (.iconst 1, 1) := by decide +kernel
theorem dX6_openAll_99 : decode cX6_openAll 99 = .ok (.isub, 1) := by decide +kernel
theorem dX6_openAll_100 : decode cX6_openAll 100 = .ok (.aload_n 0, 1) := by decide +kernel
theorem dX6_openAll_101 : decode cX6_openAll 101 = .ok (.getfield 25, 3) := by decide +kernel
theorem dX6_openAll_104 : decode cX6_openAll 104 = .ok (.iload_n 2, 1) := by decide +kernel
theorem dX6_openAll_105 : decode cX6_openAll 105 = .ok (.iconst 3, 1) := by decide +kernel
theorem dX6_openAll_106 : decode cX6_openAll 106 = .ok (.iadd, 1) := by decide +kernel
theorem dX6_openAll_107 : decode cX6_openAll 107 = .ok (.iload_n 3, 1) := by decide +kernel
theorem dX6_openAll_108 : decode cX6_openAll 108 = .ok (.iadd, 1) := by decide +kernel
theorem dX6_openAll_109 : decode cX6_openAll 109 = .ok (.iaload, 1) := by decide +kernel
theorem dX6_openAll_110 : decode cX6_openAll 110 = .ok (.invokevirtual 126, 3) := by decide +kernel
theorem dX6_openAll_113 : decode cX6_openAll 113 = .ok (.iinc 3 1, 3) := by decide +kernel
theorem dX6_openAll_116 : decode cX6_openAll 116 = .ok (.goto (-37), 3) := by decide +kernel
theorem dX6_openAll_119 : decode cX6_openAll 119 = .ok (.iinc 1 1, 3) := by decide +kernel
theorem dX6_openAll_122 : decode cX6_openAll 122 = .ok (.goto (-76), 3) := by decide +kernel
theorem dX6_openAll_125 : decode cX6_openAll 125 = .ok (.aload_n 0, 1) := by decide +kernel
theorem dX6_openAll_126 : decode cX6_openAll 126 = .ok (.iconst 0, 1) := by decide +kernel
theorem dX6_openAll_127 : decode cX6_openAll 127 = .ok (.putfield 141, 3) := by decide +kernel
theorem dX6_openAll_130 : decode cX6_openAll 130 = .ok (.aload_n 0, 1) := by decide +kernel
theorem dX6_openAll_131 : decode cX6_openAll 131 = .ok (.getfield 7, 3) := by decide +kernel
theorem dX6_openAll_134 : decode cX6_openAll 134 = .ok (.iconst 0, 1) := by decide +kernel
theorem dX6_openAll_135 : decode cX6_openAll 135 = .ok (.iaload, 1) := by decide +kernel
theorem dX6_openAll_136 : decode cX6_openAll 136 = .ok (.ireturn, 1) := by decide +kernel
theorem dX6_undo_0 : decode cX6_undo 0 = .ok (.aload_n 0, 1) := by decide +kernel
theorem dX6_undo_1 : decode cX6_undo 1 = .ok (.iconst 0, 1) := by decide +kernel
theorem dX6_undo_2 : decode cX6_undo 2 = .ok (.putfield 28, 3) := by decide +kernel
theorem dX6_undo_5 : decode cX6_undo 5 = .ok (.aload_n 0, 1) := by decide +kernel
theorem dX6_undo_6 : decode cX6_undo 6 = .ok (.getfield 32, 3) := by decide +kernel
theorem dX6_undo_9 : decode cX6_undo 9 = .ok (.ifCond .ne 9, 3) := by decide +kernel
theorem dX6_undo_12 : decode cX6_undo 12 = .ok (.aload_n 0, 1) := by decide +kernel
theorem dX6_undo_13 : decode cX6_undo 13 = .ok (.iconst 1, 1) := by decide +kernel
theorem dX6_undo_14 : decode cX6_undo 14 = .ok (.invokevirtual 114, 3) := by decide +kernel
theorem dX6_undo_17 : decode cX6_undo 17 = .ok (.ireturn, 1) := by decide +kernel
theorem dX6_undo_18 : decode cX6_undo 18 = .ok (.aload_n 0, 1) := by decide +kernel
theorem dX6_undo_19 : decode cX6_undo 19 = .ok (.dup, 1) := by decide +kernel
theorem dX6_undo_20 : decode cX6_undo 20 = .ok (.getfield 32, 3) := by decide +kernel
theorem dX6_undo_23 : decode cX6_undo 23 = .ok (.iconst 1, 1) := by decide +kernel
theorem dX6_undo_24 : decode cX6_undo 24 = .ok (.isub, 1) := by decide +kernel
theorem dX6_undo_25 : decode cX6_undo 25 = .ok (.putfield 32, 3) := by decide +kernel
theorem dX6_undo_28 : decode cX6_undo 28 = .ok (.iconst 0, 1) := by decide +kernel
theorem dX6_undo_29 : decode cX6_undo 29 = .ok (.istore_n 1, 1) := by decide +kernel
theorem dX6_undo_30 : decode cX6_undo 30 = .ok (.iload_n 1, 1) := by decide +kernel
theorem dX6_undo_31 : decode cX6_undo 31 = .ok (.sipush 444, 3) := by decide +kernel
theorem dX6_undo_34 : decode cX6_undo 34 = .ok (.if_icmp .ge 30, 3) := by decide +kernel
theorem dX6_undo_37 : decode cX6_undo 37 = .ok (.aload_n 0, 1) := by decide +kernel
theorem dX6_undo_38 : decode cX6_undo 38 = .ok (.getfield 7, 3) := by decide +kernel
theorem dX6_undo_41 : decode cX6_undo 41 = .ok (.iload_n 1, 1) := by decide +kernel
theorem dX6_undo_42 : decode cX6_undo 42 = .ok (.aload_n 0, 1) := by decide +kernel
theorem dX6_undo_43 : decode cX6_undo 43 = .ok (.getfield 13, 3) := by decide +kernel
theorem dX6_undo_46 : decode cX6_undo 46 = .ok (.sipush 444, 3) := by decide +kernel
theorem dX6_undo_49 : decode cX6_undo 49 = .ok (.aload_n 0, 1) := by decide +kernel
theorem dX6_undo_50 : decode cX6_undo 50 = .ok (.getfield 32, 3) := by decide +kernel
theorem dX6_undo_53 : decode cX6_undo 53 = .ok (.imul, 1) := by decide +kernel
theorem dX6_undo_54 : decode cX6_undo 54 = .ok (.iload_n 1, 1) := by decide +kernel
theorem dX6_undo_55 : decode cX6_undo 55 = .ok (.iadd, 1) := by decide +kernel
theorem dX6_undo_56 : decode cX6_undo 56 = .ok (.iaload, 1) := by decide +kernel
theorem dX6_undo_57 : decode cX6_undo 57 = .ok (.iastore, 1) := by decide +kernel
theorem dX6_undo_58 : decode cX6_undo 58 = .ok (.iinc 1 1, 3) := by decide +kernel
theorem dX6_undo_61 : decode cX6_undo 61 = .ok (.goto (-31), 3) := by decide +kernel
theorem dX6_undo_64 : decode cX6_undo 64 = .ok (.aload_n 0, 1) := by decide +kernel
theorem dX6_undo_65 : decode cX6_undo 65 = .ok (.getfield 32, 3) := by decide +kernel
theorem dX6_undo_68 : decode cX6_undo 68 = .ok (.ireturn, 1) := by decide +kernel
theorem dX6_planned_0 : decode cX6_planned 0 = .ok (.iconst 0, 1) := by decide +kernel
theorem dX6_planned_1 : decode cX6_planned 1 = .ok (.istore_n 2, 1) := by decide +kernel
theorem dX6_planned_2 : decode cX6_planned 2 = .ok (.iconst 0, 1) := by decide +kernel
theorem dX6_planned_3 : decode cX6_planned 3 = .ok (.istore_n 3, 1) := by decide +kernel
theorem dX6_planned_4 : decode cX6_planned 4 = .ok (.iload_n 3, 1) := by decide +kernel
theorem dX6_planned_5 : decode cX6_planned 5 = .ok (.aload_n 0, 1) := by decide +kernel
theorem dX6_planned_6 : decode cX6_planned 6 = .ok (.getfield 7, 3) := by decide +kernel
theorem dX6_planned_9 : decode cX6_planned 9 = .ok (.iload_n 1, 1) := by decide +kernel
theorem dX6_planned_10 : decode cX6_planned 10 = .ok (.invokestatic 39, 3) := by decide +kernel
theorem dX6_planned_13 : decode cX6_planned 13 = .ok (.iconst 5, 1) := by decide +kernel
theorem dX6_planned_14 : decode cX6_planned 14 = .ok (.iadd, 1) := by decide +kernel
theorem dX6_planned_15 : decode cX6_planned 15 = .ok (.iaload, 1) := by decide +kernel
theorem dX6_planned_16 : decode cX6_planned 16 = .ok (.if_icmp .ge 26, 3) := by decide +kernel
theorem dX6_planned_19 : decode cX6_planned 19 = .ok (.iload_n 2, 1) := by decide +kernel
theorem dX6_planned_20 : decode cX6_planned 20 = .ok (.aload_n 0, 1) := by decide +kernel
theorem dX6_planned_21 : decode cX6_planned 21 = .ok (.getfield 7, 3) := by decide +kernel
theorem dX6_planned_24 : decode cX6_planned 24 = .ok (.iload_n 1, 1) := by decide +kernel
theorem dX6_planned_25 : decode cX6_planned 25 = .ok (.invokestatic 39, 3) := by decide +kernel
theorem dX6_planned_28 : decode cX6_planned 28 = .ok (.bipush 10, 2) := by decide +kernel
theorem dX6_planned_30 : decode cX6_planned 30 = .ok (.iadd, 1) := by decide +kernel
theorem dX6_planned_31 : decode cX6_planned 31 = .ok (.iload_n 3, 1) := by decide +kernel
theorem dX6_planned_32 : decode cX6_planned 32 = .ok (.iadd, 1) := by decide +kernel
theorem dX6_planned_33 : decode cX6_planned 33 = .ok (.iaload, 1) := by decide +kernel
theorem dX6_planned_34 : decode cX6_planned 34 = .ok (.iadd, 1) := by decide +kernel
theorem dX6_planned_35 : decode cX6_planned 35 = .ok (.istore_n 2, 1) := by decide +kernel
theorem dX6_planned_36 : decode cX6_planned 36 = .ok (.iinc 3 1, 3) := by decide +kernel
theorem dX6_planned_39 : decode cX6_planned 39 = .ok (.goto (-35), 3) := by decide +kernel
theorem dX6_planned_42 : decode cX6_planned 42 = .ok (.iload_n 2, 1) := by decide +kernel
theorem dX6_planned_43 : decode cX6_planned 43 = .ok (.ireturn, 1) := by decide +kernel
theorem dX6_spent_0 : decode cX6_spent 0 = .ok (.iconst 0, 1) := by decide +kernel
theorem dX6_spent_1 : decode cX6_spent 1 = .ok (.istore_n 2, 1) := by decide +kernel
theorem dX6_spent_2 : decode cX6_spent 2 = .ok (.iconst 0, 1) := by decide +kernel
theorem dX6_spent_3 : decode cX6_spent 3 = .ok (.istore_n 3, 1) := by decide +kernel
theorem dX6_spent_4 : decode cX6_spent 4 = .ok (.iload_n 3, 1) := by decide +kernel
theorem dX6_spent_5 : decode cX6_spent 5 = .ok (.aload_n 0, 1) := by decide +kernel
theorem dX6_spent_6 : decode cX6_spent 6 = .ok (.getfield 7, 3) := by decide +kernel
theorem dX6_spent_9 : decode cX6_spent 9 = .ok (.iload_n 1, 1) := by decide +kernel
theorem dX6_spent_10 : decode cX6_spent 10 = .ok (.invokestatic 39, 3) := by decide +kernel
theorem dX6_spent_13 : decode cX6_spent 13 = .ok (.bipush 6, 2) := by decide +kernel
theorem dX6_spent_15 : decode cX6_spent 15 = .ok (.iadd, 1) := by decide +kernel
theorem dX6_spent_16 : decode cX6_spent 16 = .ok (.iaload, 1) := by decide +kernel
theorem dX6_spent_17 : decode cX6_spent 17 = .ok (.if_icmp .ge 26, 3) := by decide +kernel
theorem dX6_spent_20 : decode cX6_spent 20 = .ok (.iload_n 2, 1) := by decide +kernel
theorem dX6_spent_21 : decode cX6_spent 21 = .ok (.aload_n 0, 1) := by decide +kernel
theorem dX6_spent_22 : decode cX6_spent 22 = .ok (.getfield 7, 3) := by decide +kernel
theorem dX6_spent_25 : decode cX6_spent 25 = .ok (.iload_n 1, 1) := by decide +kernel
theorem dX6_spent_26 : decode cX6_spent 26 = .ok (.invokestatic 39, 3) := by decide +kernel
theorem dX6_spent_29 : decode cX6_spent 29 = .ok (.bipush 18, 2) := by decide +kernel
theorem dX6_spent_31 : decode cX6_spent 31 = .ok (.iadd, 1) := by decide +kernel
theorem dX6_spent_32 : decode cX6_spent 32 = .ok (.iload_n 3, 1) := by decide +kernel
theorem dX6_spent_33 : decode cX6_spent 33 = .ok (.iadd, 1) := by decide +kernel
theorem dX6_spent_34 : decode cX6_spent 34 = .ok (.iaload, 1) := by decide +kernel
