theorem dX0_init_0 : decode cX0_init 0 = .ok (.aload_n 0, 1) := by decide +kernel
theorem dX0_init_1 : decode cX0_init 1 = .ok (.invokespecial 3, 3) := by decide +kernel
theorem dX0_init_4 : decode cX0_init 4 = .ok (.aload_n 0, 1) := by decide +kernel
theorem dX0_init_5 : decode cX0_init 5 = .ok (.new 9, 3) := by decide +kernel
theorem dX0_init_8 : decode cX0_init 8 = .ok (.dup, 1) := by decide +kernel
theorem dX0_init_9 : decode cX0_init 9 = .ok (.bipush 6, 2) := by decide +kernel
theorem dX0_init_11 : decode cX0_init 11 = .ok (.bipush 14, 2) := by decide +kernel
theorem dX0_init_13 : decode cX0_init 13 = .ok (.invokespecial 11, 3) := by decide +kernel
theorem dX0_init_16 : decode cX0_init 16 = .ok (.putfield 14, 3) := by decide +kernel
theorem dX0_init_19 : decode cX0_init 19 = .ok (.aload_n 0, 1) := by decide +kernel
theorem dX0_init_20 : decode cX0_init 20 = .ok (.new 9, 3) := by decide +kernel
theorem dX0_init_23 : decode cX0_init 23 = .ok (.dup, 1) := by decide +kernel
theorem dX0_init_24 : decode cX0_init 24 = .ok (.bipush 48, 2) := by decide +kernel
theorem dX0_init_26 : decode cX0_init 26 = .ok (.bipush 6, 2) := by decide +kernel
theorem dX0_init_28 : decode cX0_init 28 = .ok (.invokespecial 11, 3) := by decide +kernel
theorem dX0_init_31 : decode cX0_init 31 = .ok (.putfield 20, 3) := by decide +kernel
theorem dX0_init_34 : decode cX0_init 34 = .ok (.aload_n 0, 1) := by decide +kernel
theorem dX0_init_35 : decode cX0_init 35 = .ok (.new 9, 3) := by decide +kernel
theorem dX0_init_38 : decode cX0_init 38 = .ok (.dup, 1) := by decide +kernel
theorem dX0_init_39 : decode cX0_init 39 = .ok (.bipush 30, 2) := by decide +kernel
theorem dX0_init_41 : decode cX0_init 41 = .ok (.iconst 3, 1) := by decide +kernel
theorem dX0_init_42 : decode cX0_init 42 = .ok (.invokespecial 11, 3) := by decide +kernel
theorem dX0_init_45 : decode cX0_init 45 = .ok (.putfield 23, 3) := by decide +kernel
theorem dX0_init_48 : decode cX0_init 48 = .ok (.aload_n 0, 1) := by decide +kernel
theorem dX0_init_49 : decode cX0_init 49 = .ok (.new 9, 3) := by decide +kernel
theorem dX0_init_52 : decode cX0_init 52 = .ok (.dup, 1) := by decide +kernel
theorem dX0_init_53 : decode cX0_init 53 = .ok (.iconst 1, 1) := by decide +kernel
theorem dX0_init_54 : decode cX0_init 54 = .ok (.getstatic 26, 3) := by decide +kernel
theorem dX0_init_57 : decode cX0_init 57 = .ok (.arraylength, 1) := by decide +kernel
theorem dX0_init_58 : decode cX0_init 58 = .ok (.invokespecial 11, 3) := by decide +kernel
theorem dX0_init_61 : decode cX0_init 61 = .ok (.putfield 30, 3) := by decide +kernel
theorem dX0_init_64 : decode cX0_init 64 = .ok (.aload_n 0, 1) := by decide +kernel
theorem dX0_init_65 : decode cX0_init 65 = .ok (.new 9, 3) := by decide +kernel
theorem dX0_init_68 : decode cX0_init 68 = .ok (.dup, 1) := by decide +kernel
theorem dX0_init_69 : decode cX0_init 69 = .ok (.bipush 6, 2) := by decide +kernel
theorem dX0_init_71 : decode cX0_init 71 = .ok (.iconst 3, 1) := by decide +kernel
theorem dX0_init_72 : decode cX0_init 72 = .ok (.invokespecial 11, 3) := by decide +kernel
theorem dX0_init_75 : decode cX0_init 75 = .ok (.putfield 33, 3) := by decide +kernel
theorem dX0_init_78 : decode cX0_init 78 = .ok (.aload_n 0, 1) := by decide +kernel
theorem dX0_init_79 : decode cX0_init 79 = .ok (.getfield 30, 3) := by decide +kernel
theorem dX0_init_82 : decode cX0_init 82 = .ok (.iconst 0, 1) := by decide +kernel
theorem dX0_init_83 : decode cX0_init 83 = .ok (.iconst 1, 1) := by decide +kernel
theorem dX0_init_84 : decode cX0_init 84 = .ok (.bipush 30, 2) := by decide +kernel
theorem dX0_init_86 : decode cX0_init 86 = .ok (.invokevirtual 36, 3) := by decide +kernel
theorem dX0_init_89 : decode cX0_init 89 = .ok (.aload_n 0, 1) := by decide +kernel
theorem dX0_init_90 : decode cX0_init 90 = .ok (.getfield 30, 3) := by decide +kernel
theorem dX0_init_93 : decode cX0_init 93 = .ok (.iconst 0, 1) := by decide +kernel
theorem dX0_init_94 : decode cX0_init 94 = .ok (.iconst 2, 1) := by decide +kernel
theorem dX0_init_95 : decode cX0_init 95 = .ok (.bipush 50, 2) := by decide +kernel
theorem dX0_init_97 : decode cX0_init 97 = .ok (.invokevirtual 36, 3) := by decide +kernel
theorem dX0_init_100 : decode cX0_init 100 = .ok (.return_, 1) := by decide +kernel
theorem dX0_copyFrom_0 : decode cX0_copyFrom 0 = .ok (.aload_n 0, 1) := by decide +kernel
theorem dX0_copyFrom_1 : decode cX0_copyFrom 1 = .ok (.getfield 14, 3) := by decide +kernel
theorem dX0_copyFrom_4 : decode cX0_copyFrom 4 = .ok (.aload_n 1, 1) := by decide +kernel
theorem dX0_copyFrom_5 : decode cX0_copyFrom 5 = .ok (.getfield 14, 3) := by decide +kernel
theorem dX0_copyFrom_8 : decode cX0_copyFrom 8 = .ok (.invokevirtual 40, 3) := by decide +kernel
theorem dX0_copyFrom_11 : decode cX0_copyFrom 11 = .ok (.aload_n 0, 1) := by decide +kernel
theorem dX0_copyFrom_12 : decode cX0_copyFrom 12 = .ok (.getfield 20, 3) := by decide +kernel
theorem dX0_copyFrom_15 : decode cX0_copyFrom 15 = .ok (.aload_n 1, 1) := by decide +kernel
theorem dX0_copyFrom_16 : decode cX0_copyFrom 16 = .ok (.getfield 20, 3) := by decide +kernel
theorem dX0_copyFrom_19 : decode cX0_copyFrom 19 = .ok (.invokevirtual 40, 3) := by decide +kernel
theorem dX0_copyFrom_22 : decode cX0_copyFrom 22 = .ok (.aload_n 0, 1) := by decide +kernel
theorem dX0_copyFrom_23 : decode cX0_copyFrom 23 = .ok (.getfield 23, 3) := by decide +kernel
theorem dX0_copyFrom_26 : decode cX0_copyFrom 26 = .ok (.aload_n 1, 1) := by decide +kernel
theorem dX0_copyFrom_27 : decode cX0_copyFrom 27 = .ok (.getfield 23, 3) := by decide +kernel
theorem dX0_copyFrom_30 : decode cX0_copyFrom 30 = .ok (.invokevirtual 40, 3) := by decide +kernel
theorem dX0_copyFrom_33 : decode cX0_copyFrom 33 = .ok (.aload_n 0, 1) := by decide +kernel
theorem dX0_copyFrom_34 : decode cX0_copyFrom 34 = .ok (.getfield 30, 3) := by decide +kernel
theorem dX0_copyFrom_37 : decode cX0_copyFrom 37 = .ok (.aload_n 1, 1) := by decide +kernel
theorem dX0_copyFrom_38 : decode cX0_copyFrom 38 = .ok (.getfield 30, 3) := by decide +kernel
theorem dX0_copyFrom_41 : decode cX0_copyFrom 41 = .ok (.invokevirtual 40, 3) := by decide +kernel
theorem dX0_copyFrom_44 : decode cX0_copyFrom 44 = .ok (.aload_n 0, 1) := by decide +kernel
theorem dX0_copyFrom_45 : decode cX0_copyFrom 45 = .ok (.aload_n 1, 1) := by decide +kernel
theorem dX0_copyFrom_46 : decode cX0_copyFrom 46 = .ok (.getfield 44, 3) := by decide +kernel
theorem dX0_copyFrom_49 : decode cX0_copyFrom 49 = .ok (.putfield 44, 3) := by decide +kernel
theorem dX0_copyFrom_52 : decode cX0_copyFrom 52 = .ok (.aload_n 0, 1) := by decide +kernel
theorem dX0_copyFrom_53 : decode cX0_copyFrom 53 = .ok (.aload_n 1, 1) := by decide +kernel
theorem dX0_copyFrom_54 : decode cX0_copyFrom 54 = .ok (.getfield 48, 3) := by decide +kernel
theorem dX0_copyFrom_57 : decode cX0_copyFrom 57 = .ok (.putfield 48, 3) := by decide +kernel
theorem dX0_copyFrom_60 : decode cX0_copyFrom 60 = .ok (.return_, 1) := by decide +kernel
theorem dX0_projects_0 : decode cX0_projects 0 = .ok (.aload_n 0, 1) := by decide +kernel
theorem dX0_projects_1 : decode cX0_projects 1 = .ok (.getfield 44, 3) := by decide +kernel
theorem dX0_projects_4 : decode cX0_projects 4 = .ok (.ireturn, 1) := by decide +kernel
theorem dX0_loans_0 : decode cX0_loans 0 = .ok (.aload_n 0, 1) := by decide +kernel
theorem dX0_loans_1 : decode cX0_loans 1 = .ok (.getfield 48, 3) := by decide +kernel
theorem dX0_loans_4 : decode cX0_loans 4 = .ok (.ireturn, 1) := by decide +kernel
theorem dX0_isOpen_0 : decode cX0_isOpen 0 = .ok (.aload_n 0, 1) := by decide +kernel
theorem dX0_isOpen_1 : decode cX0_isOpen 1 = .ok (.getfield 14, 3) := by decide +kernel
theorem dX0_isOpen_4 : decode cX0_isOpen 4 = .ok (.iload_n 1, 1) := by decide +kernel
theorem dX0_isOpen_5 : decode cX0_isOpen 5 = .ok (.bipush 9, 2) := by decide +kernel
theorem dX0_isOpen_7 : decode cX0_isOpen 7 = .ok (.invokevirtual 51, 3) := by decide +kernel
theorem dX0_isOpen_10 : decode cX0_isOpen 10 = .ok (.iconst 1, 1) := by decide +kernel
theorem dX0_isOpen_11 : decode cX0_isOpen 11 = .ok (.if_icmp .ne 7, 3) := by decide +kernel
theorem dX0_isOpen_14 : decode cX0_isOpen 14 = .ok (.iconst 1, 1) := by decide +kernel
theorem dX0_isOpen_15 : decode cX0_isOpen 15 = .ok (.goto 4, 3) := by decide +kernel
theorem dX0_isOpen_18 : decode cX0_isOpen 18 = .ok (.iconst 0, 1) := by decide +kernel
theorem dX0_isOpen_19 : decode cX0_isOpen 19 = .ok (.ireturn, 1) := by decide +kernel
theorem dX0_hasNextTask_0 : decode cX0_hasNextTask 0 = .ok (.aload_n 0, 1) := by decide +kernel
theorem dX0_hasNextTask_1 : decode cX0_hasNextTask 1 = .ok (.iload_n 1, 1) := by decide +kernel
theorem dX0_hasNextTask_2 : decode cX0_hasNextTask 2 = .ok (.invokevirtual 55, 3) := by decide +kernel
theorem dX0_hasNextTask_5 : decode cX0_hasNextTask 5 = .ok (.ifCond .eq 30, 3) := by decide +kernel
theorem dX0_hasNextTask_8 : decode cX0_hasNextTask 8 = .ok (.aload_n 0, 1) := by decide +kernel
theorem dX0_hasNextTask_9 : decode cX0_hasNextTask 9 = .ok (.getfield 14, 3) := by decide +kernel
theorem dX0_hasNextTask_12 : decode cX0_hasNextTask 12 = .ok (.iload_n 1, 1) := by decide +kernel
theorem dX0_hasNextTask_13 : decode cX0_hasNextTask 13 = .ok (.bipush 8, 2) := by decide +kernel
theorem dX0_hasNextTask_15 : decode cX0_hasNextTask 15 = .ok (.invokevirtual 51, 3) := by decide +kernel
theorem dX0_hasNextTask_18 : decode cX0_hasNextTask 18 = .ok (.aload_n 0, 1) := by decide +kernel
theorem dX0_hasNextTask_19 : decode cX0_hasNextTask 19 = .ok (.getfield 14, 3) := by decide +kernel
theorem dX0_hasNextTask_22 : decode cX0_hasNextTask 22 = .ok (.iload_n 1, 1) := by decide +kernel
theorem dX0_hasNextTask_23 : decode cX0_hasNextTask 23 = .ok (.bipush 7, 2) := by decide +kernel
theorem dX0_hasNextTask_25 : decode cX0_hasNextTask 25 = .ok (.invokevirtual 51, 3) := by decide +kernel
theorem dX0_hasNextTask_28 : decode cX0_hasNextTask 28 = .ok (.if_icmp .ge 7, 3) := by decide +kernel
theorem dX0_hasNextTask_31 : decode cX0_hasNextTask 31 = .ok (.iconst 1, 1) := by decide +kernel
theorem dX0_hasNextTask_32 : decode cX0_hasNextTask 32 = .ok (.goto 4, 3) := by decide +kernel
theorem dX0_hasNextTask_35 : decode cX0_hasNextTask 35 = .ok (.iconst 0, 1) := by decide +kernel
theorem dX0_hasNextTask_36 : decode cX0_hasNextTask 36 = .ok (.ireturn, 1) := by decide +kernel
theorem dX0_projectPart_0 : decode cX0_projectPart 0 = .ok (.iload_n 2, 1) := by decide +kernel
theorem dX0_projectPart_1 : decode cX0_projectPart 1 = .ok (.bipush 14, 2) := by decide +kernel
theorem dX0_projectPart_3 : decode cX0_projectPart 3 = .ok (.if_icmp .eq 13, 3) := by decide +kernel
theorem dX0_projectPart_6 : decode cX0_projectPart 6 = .ok (.aload_n 0, 1) := by decide +kernel
theorem dX0_projectPart_7 : decode cX0_projectPart 7 = .ok (.getfield 14, 3) := by decide +kernel
theorem dX0_projectPart_10 : decode cX0_projectPart 10 = .ok (.iload_n 1, 1) := by decide +kernel
theorem dX0_projectPart_11 : decode cX0_projectPart 11 = .ok (.iload_n 2, 1) := by decide +kernel
theorem dX0_projectPart_12 : decode cX0_projectPart 12 = .ok (.invokevirtual 51, 3) := by decide +kernel
theorem dX0_projectPart_15 : decode cX0_projectPart 15 = .ok (.ireturn, 1) := by decide +kernel
theorem dX0_projectPart_16 : decode cX0_projectPart 16 = .ok (.aload_n 0, 1) := by decide +kernel
theorem dX0_projectPart_17 : decode cX0_projectPart 17 = .ok (.iload_n 1, 1) := by decide +kernel
theorem dX0_projectPart_18 : decode cX0_projectPart 18 = .ok (.invokevirtual 55, 3) := by decide +kernel
theorem dX0_projectPart_21 : decode cX0_projectPart 21 = .ok (.ifCond .eq 12, 3) := by decide +kernel
theorem dX0_projectPart_24 : decode cX0_projectPart 24 = .ok (.aload_n 0, 1) := by decide +kernel
theorem dX0_projectPart_25 : decode cX0_projectPart 25 = .ok (.iload_n 1, 1) := by decide +kernel
theorem dX0_projectPart_26 : decode cX0_projectPart 26 = .ok (.iconst 0, 1) := by decide +kernel
theorem dX0_projectPart_27 : decode cX0_projectPart 27 = .ok (.invokevirtual 59, 3) := by decide +kernel
theorem dX0_projectPart_30 : decode cX0_projectPart 30 = .ok (.goto 4, 3) := by decide +kernel
theorem dX0_projectPart_33 : decode cX0_projectPart 33 = .ok (.iconst 0, 1) := by decide +kernel
theorem dX0_projectPart_34 : decode cX0_projectPart 34 = .ok (.ireturn, 1) := by decide +kernel
theorem dX0_taskPart_0 : decode cX0_taskPart 0 = .ok (.aload_n 0, 1) := by decide +kernel
theorem dX0_taskPart_1 : decode cX0_taskPart 1 = .ok (.getfield 20, 3) := by decide +kernel
theorem dX0_taskPart_4 : decode cX0_taskPart 4 = .ok (.iload_n 1, 1) := by decide +kernel
theorem dX0_taskPart_5 : decode cX0_taskPart 5 = .ok (.iload_n 2, 1) := by decide +kernel
theorem dX0_taskPart_6 : decode cX0_taskPart 6 = .ok (.invokestatic 62, 3) := by decide +kernel
theorem dX0_taskPart_9 : decode cX0_taskPart 9 = .ok (.iload_n 3, 1) := by decide +kernel
theorem dX0_taskPart_10 : decode cX0_taskPart 10 = .ok (.invokevirtual 51, 3) := by decide +kernel
theorem dX0_taskPart_13 : decode cX0_taskPart 13 = .ok (.ireturn, 1) := by decide +kernel
theorem dX0_loanPart_0 : decode cX0_loanPart 0 = .ok (.aload_n 0, 1) := by decide +kernel
theorem dX0_loanPart_1 : decode cX0_loanPart 1 = .ok (.getfield 23, 3) := by decide +kernel
theorem dX0_loanPart_4 : decode cX0_loanPart 4 = .ok (.iload_n 1, 1) := by decide +kernel
theorem dX0_loanPart_5 : decode cX0_loanPart 5 = .ok (.iload_n 2, 1) := by decide +kernel
theorem dX0_loanPart_6 : decode cX0_loanPart 6 = .ok (.invokevirtual 51, 3) := by decide +kernel
theorem dX0_loanPart_9 : decode cX0_loanPart 9 = .ok (.ireturn, 1) := by decide +kernel
theorem dX0_valueOf_0 : decode cX0_valueOf 0 = .ok (.aload_n 0, 1) := by decide +kernel
theorem dX0_valueOf_1 : decode cX0_valueOf 1 = .ok (.getfield 30, 3) := by decide +kernel
theorem dX0_valueOf_4 : decode cX0_valueOf 4 = .ok (.iconst 0, 1) := by decide +kernel
theorem dX0_valueOf_5 : decode cX0_valueOf 5 = .ok (.iload_n 1, 1) := by decide +kernel
theorem dX0_valueOf_6 : decode cX0_valueOf 6 = .ok (.invokevirtual 51, 3) := by decide +kernel
theorem dX0_valueOf_9 : decode cX0_valueOf 9 = .ok (.ireturn, 1) := by decide +kernel
theorem dX0_changeSetting_0 : decode cX0_changeSetting 0 = .ok (.aload_n 0, 1) := by decide +kernel
theorem dX0_changeSetting_1 : decode cX0_changeSetting 1 = .ok (.getfield 30, 3) := by decide +kernel
theorem dX0_changeSetting_4 : decode cX0_changeSetting 4 = .ok (.iconst 0, 1) := by decide +kernel
theorem dX0_changeSetting_5 : decode cX0_changeSetting 5 = .ok (.iload_n 1, 1) := by decide +kernel
theorem dX0_changeSetting_6 : decode cX0_changeSetting 6 = .ok (.invokevirtual 51, 3) := by decide +kernel
theorem dX0_changeSetting_9 : decode cX0_changeSetting 9 = .ok (.istore_n 3, 1) := by decide +kernel
theorem dX0_changeSetting_10 : decode cX0_changeSetting 10 = .ok (.aload_n 0, 1) := by decide +kernel
theorem dX0_changeSetting_11 : decode cX0_changeSetting 11 = .ok (.getfield 30, 3) := by decide +kernel
theorem dX0_changeSetting_14 : decode cX0_changeSetting 14 = .ok (.iconst 0, 1) := by decide +kernel
theorem dX0_changeSetting_15 : decode cX0_changeSetting 15 = .ok (.iload_n 1, 1) := by decide +kernel
theorem dX0_changeSetting_16 : decode cX0_changeSetting 16 = .ok (.iload_n 2, 1) := by decide +kernel
theorem dX0_changeSetting_17 : decode cX0_changeSetting 17 = .ok (.invokevirtual 36, 3) := by decide +kernel
theorem dX0_changeSetting_20 : decode cX0_changeSetting 20 = .ok (.iload_n 3, 1) := by decide +kernel
theorem dX0_changeSetting_21 : decode cX0_changeSetting 21 = .ok (.ireturn, 1) := by decide +kernel
theorem dX0_changeRank_0 : decode cX0_changeRank 0 = .ok (.aload_n 0, 1) := by decide +kernel
theorem dX0_changeRank_1 : decode cX0_changeRank 1 = .ok (.getfield 14, 3) := by decide +kernel
theorem dX0_changeRank_4 : decode cX0_changeRank 4 = .ok (.iload_n 1, 1) := by decide +kernel
theorem dX0_changeRank_5 : decode cX0_changeRank 5 = .ok (.iconst 0, 1) := by decide +kernel
theorem dX0_changeRank_6 : decode cX0_changeRank 6 = .ok (.invokevirtual 51, 3) := by decide +kernel
theorem dX0_changeRank_9 : decode cX0_changeRank 9 = .ok (.istore_n 3, 1) := by decide +kernel
theorem dX0_changeRank_10 : decode cX0_changeRank 10 = .ok (.aload_n 0, 1) := by decide +kernel
theorem dX0_changeRank_11 : decode cX0_changeRank 11 = .ok (.getfield 14, 3) := by decide +kernel
theorem dX0_changeRank_14 : decode cX0_changeRank 14 = .ok (.iload_n 1, 1) := by decide +kernel
theorem dX0_changeRank_15 : decode cX0_changeRank 15 = .ok (.iconst 0, 1) := by decide +kernel
theorem dX0_changeRank_16 : decode cX0_changeRank 16 = .ok (.iload_n 2, 1) := by decide +kernel
theorem dX0_changeRank_17 : decode cX0_changeRank 17 = .ok (.invokevirtual 36, 3) := by decide +kernel
theorem dX0_changeRank_20 : decode cX0_changeRank 20 = .ok (.iload_n 3, 1) := by decide +kernel
theorem dX0_changeRank_21 : decode cX0_changeRank 21 = .ok (.ireturn, 1) := by decide +kernel
theorem dX0_addProject_0 : decode cX0_addProject 0 = .ok (.aload_n 0, 1) := by decide +kernel
theorem dX0_addProject_1 : decode cX0_addProject 1 = .ok (.getfield 44, 3) := by decide +kernel
theorem dX0_addProject_4 : decode cX0_addProject 4 = .ok (.istore_n 3, 1) := by decide +kernel
theorem dX0_addProject_5 : decode cX0_addProject 5 = .ok (.aload_n 0, 1) := by decide +kernel
theorem dX0_addProject_6 : decode cX0_addProject 6 = .ok (.dup, 1) := by decide +kernel
theorem dX0_addProject_7 : decode cX0_addProject 7 = .ok (.getfield 44, 3) := by decide +kernel
theorem dX0_addProject_10 : decode cX0_addProject 10 = .ok (.iconst 1, 1) := by decide +kernel
theorem dX0_addProject_11 : decode cX0_addProject 11 = .ok (.iadd, 1) := by decide +kernel
theorem dX0_addProject_12 : decode cX0_addProject 12 = .ok (.putfield 44, 3) := by decide +kernel
theorem dX0_addProject_15 : decode cX0_addProject 15 = .ok (.aload_n 0, 1) := by decide +kernel
theorem dX0_addProject_16 : decode cX0_addProject 16 = .ok (.getfield 14, 3) := by decide +kernel
theorem dX0_addProject_19 : decode cX0_addProject 19 = .ok (.iload_n 3, 1) := by decide +kernel
theorem dX0_addProject_20 : decode cX0_addProject 20 = .ok (.iconst 0, 1) := by decide +kernel
theorem dX0_addProject_21 : decode cX0_addProject 21 = .ok (.iload_n 1, 1) := by decide +kernel
theorem dX0_addProject_22 : decode cX0_addProject 22 = .ok (.invokevirtual 36, 3) := by decide +kernel
theorem dX0_addProject_25 : decode cX0_addProject 25 = .ok (.aload_n 0, 1) := by decide +kernel
theorem dX0_addProject_26 : decode cX0_addProject 26 = .ok (.getfield 14, 3) := by decide +kernel
theorem dX0_addProject_29 : decode cX0_addProject 29 = .ok (.iload_n 3, 1) := by decide +kernel
theorem dX0_addProject_30 : decode cX0_addProject 30 = .ok (.iconst 1, 1) := by decide +kernel
theorem dX0_addProject_31 : decode cX0_addProject 31 = .ok (.iload_n 2, 1) := by decide +kernel
theorem dX0_addProject_32 : decode cX0_addProject 32 = .ok (.invokevirtual 36, 3) := by decide +kernel
theorem dX0_addProject_35 : decode cX0_addProject 35 = .ok (.aload_n 0, 1) := by decide +kernel
theorem dX0_addProject_36 : decode cX0_addProject 36 = .ok (.getfield 14, 3) := by decide +kernel
theorem dX0_addProject_39 : decode cX0_addProject 39 = .ok (.iload_n 3, 1) := by decide +kernel
theorem dX0_addProject_40 : decode cX0_addProject 40 = .ok (.iconst 2, 1) := by decide +kernel
theorem dX0_addProject_41 : decode cX0_addProject 41 = .ok (.iload_n 2, 1) := by decide +kernel
theorem dX0_addProject_42 : decode cX0_addProject 42 = .ok (.invokevirtual 36, 3) := by decide +kernel
theorem dX0_addProject_45 : decode cX0_addProject 45 = .ok (.aload_n 0, 1) := by decide +kernel
theorem dX0_addProject_46 : decode cX0_addProject 46 = .ok (.getfield 14, 3) := by decide +kernel
theorem dX0_addProject_49 : decode cX0_addProject 49 = .ok (.iload_n 3, 1) := by decide +kernel
theorem dX0_addProject_50 : decode cX0_addProject 50 = .ok (.bipush 9, 2) := by decide +kernel
theorem dX0_addProject_52 : decode cX0_addProject 52 = .ok (.iconst 1, 1) := by decide +kernel
theorem dX0_addProject_53 : decode cX0_addProject 53 = .ok (.invokevirtual 36, 3) := by decide +kernel
theorem dX0_addProject_56 : decode cX0_addProject 56 = .ok (.iload_n 3, 1) := by decide +kernel
theorem dX0_addProject_57 : decode cX0_addProject 57 = .ok (.ireturn, 1) := by decide +kernel
theorem dX0_addTask_0 : decode cX0_addTask 0 = .ok (.aload_n 0, 1) := by decide +kernel
theorem dX0_addTask_1 : decode cX0_addTask 1 = .ok (.getfield 14, 3) := by decide +kernel
theorem dX0_addTask_4 : decode cX0_addTask 4 = .ok (.iload_n 1, 1) := by decide +kernel
theorem dX0_addTask_5 : decode cX0_addTask 5 = .ok (.bipush 7, 2) := by decide +kernel
theorem dX0_addTask_7 : decode cX0_addTask 7 = .ok (.invokevirtual 51, 3) := by decide +kernel
theorem dX0_addTask_10 : decode cX0_addTask 10 = .ok (.istore_n 3, 1) := by decide +kernel
theorem dX0_addTask_11 : decode cX0_addTask 11 = .ok (.iload_n 1, 1) := by decide +kernel
theorem dX0_addTask_12 : decode cX0_addTask 12 = .ok (.iload_n 3, 1) := by decide +kernel
theorem dX0_addTask_13 : decode cX0_addTask 13 = .ok (.invokestatic 62, 3) := by decide +kernel
theorem dX0_addTask_16 : decode cX0_addTask 16 = .ok (.istore 4, 2) := by decide +kernel
theorem dX0_addTask_18 : decode cX0_addTask 18 = .ok (.aload_n 0, 1) := by decide +kernel
theorem dX0_addTask_19 : decode cX0_addTask 19 = .ok (.getfield 20, 3) := by decide +kernel
theorem dX0_addTask_22 : decode cX0_addTask 22 = .ok (.iload 4, 2) := by decide +kernel
theorem dX0_addTask_24 : decode cX0_addTask 24 = .ok (.iconst 0, 1) := by decide +kernel
theorem dX0_addTask_25 : decode cX0_addTask 25 = .ok (.iload_n 2, 1) := by decide +kernel
theorem dX0_addTask_26 : decode cX0_addTask 26 = .ok (.invokevirtual 36, 3) := by decide +kernel
theorem dX0_addTask_29 : decode cX0_addTask 29 = .ok (.aload_n 0, 1) := by decide +kernel
theorem dX0_addTask_30 : decode cX0_addTask 30 = .ok (.getfield 20, 3) := by decide +kernel
theorem dX0_addTask_33 : decode cX0_addTask 33 = .ok (.iload 4, 2) := by decide +kernel
theorem dX0_addTask_35 : decode cX0_addTask 35 = .ok (.iconst 1, 1) := by decide +kernel
theorem dX0_addTask_36 : decode cX0_addTask 36 = .ok (.iconst (-1), 1) := by decide +kernel
theorem dX0_addTask_37 : decode cX0_addTask 37 = .ok (.invokevirtual 36, 3) := by decide +kernel
theorem dX0_addTask_40 : decode cX0_addTask 40 = .ok (.aload_n 0, 1) := by decide +kernel
theorem dX0_addTask_41 : decode cX0_addTask 41 = .ok (.getfield 14, 3) := by decide +kernel
theorem dX0_addTask_44 : decode cX0_addTask 44 = .ok (.iload_n 1, 1) := by decide +kernel
theorem dX0_addTask_45 : decode cX0_addTask 45 = .ok (.bipush 7, 2) := by decide +kernel
theorem dX0_addTask_47 : decode cX0_addTask 47 = .ok (.iconst 1, 1) := by decide +kernel
theorem dX0_addTask_48 : decode cX0_addTask 48 = .ok (.invokevirtual 65, 3) := by decide +kernel
theorem dX0_addTask_51 : decode cX0_addTask 51 = .ok (.aload_n 0, 1) := by decide +kernel
theorem dX0_addTask_52 : decode cX0_addTask 52 = .ok (.getfield 14, 3) := by decide +kernel
theorem dX0_addTask_55 : decode cX0_addTask 55 = .ok (.iload_n 1, 1) := by decide +kernel
theorem dX0_addTask_56 : decode cX0_addTask 56 = .ok (.bipush 12, 2) := by decide +kernel
theorem dX0_addTask_58 : decode cX0_addTask 58 = .ok (.iload_n 2, 1) := by decide +kernel
theorem dX0_addTask_59 : decode cX0_addTask 59 = .ok (.invokevirtual 65, 3) := by decide +kernel
theorem dX0_addTask_62 : decode cX0_addTask 62 = .ok (.iload_n 3, 1) := by decide +kernel
theorem dX0_addTask_63 : decode cX0_addTask 63 = .ok (.ireturn, 1) := by decide +kernel
theorem dX0_rowOfTask_0 : decode cX0_rowOfTask 0 = .ok (.iload_n 0, 1) := by decide +kernel
theorem dX0_rowOfTask_1 : decode cX0_rowOfTask 1 = .ok (.bipush 8, 2) := by decide +kernel
theorem dX0_rowOfTask_3 : decode cX0_rowOfTask 3 = .ok (.imul, 1) := by decide +kernel
theorem dX0_rowOfTask_4 : decode cX0_rowOfTask 4 = .ok (.iload_n 1, 1) := by decide +kernel
theorem dX0_rowOfTask_5 : decode cX0_rowOfTask 5 = .ok (.iadd, 1) := by decide +kernel
theorem dX0_rowOfTask_6 : decode cX0_rowOfTask 6 = .ok (.ireturn, 1) := by decide +kernel
theorem dX0_sumOfProjects_0 : decode cX0_sumOfProjects 0 = .ok (.iconst 0, 1) := by decide +kernel
theorem dX0_sumOfProjects_1 : decode cX0_sumOfProjects 1 = .ok (.istore_n 2, 1) := by decide +kernel
theorem dX0_sumOfProjects_2 : decode cX0_sumOfProjects 2 = .ok (.iconst 0, 1) := by decide +kernel
theorem dX0_sumOfProjects_3 : decode cX0_sumOfProjects 3 = .ok (.istore_n 3, 1) := by decide +kernel
theorem dX0_sumOfProjects_4 : decode cX0_sumOfProjects 4 = .ok (.iload_n 3, 1) := by decide +kernel
theorem dX0_sumOfProjects_5 : decode cX0_sumOfProjects 5 = .ok (.aload_n 0, 1) := by decide +kernel
theorem dX0_sumOfProjects_6 : decode cX0_sumOfProjects 6 = .ok (.getfield 44, 3) := by decide +kernel
theorem dX0_sumOfProjects_9 : decode cX0_sumOfProjects 9 = .ok (.if_icmp .ge 21, 3) := by decide +kernel
theorem dX0_sumOfProjects_12 : decode cX0_sumOfProjects 12 = .ok (.iload_n 2, 1) := by decide +kernel
theorem dX0_sumOfProjects_13 : decode cX0_sumOfProjects 13 = .ok (.aload_n 0, 1) := by decide +kernel
theorem dX0_sumOfProjects_14 : decode cX0_sumOfProjects 14 = .ok (.getfield 14, 3) := by decide +kernel
theorem dX0_sumOfProjects_17 : decode cX0_sumOfProjects 17 = .ok (.iload_n 3, 1) := by decide +kernel
theorem dX0_sumOfProjects_18 : decode cX0_sumOfProjects 18 = .ok (.iload_n 1, 1) := by decide +kernel
theorem dX0_sumOfProjects_19 : decode cX0_sumOfProjects 19 = .ok (.invokevirtual 51, 3) := by decide +kernel
theorem dX0_sumOfProjects_22 : decode cX0_sumOfProjects 22 = .ok (.iadd, 1) := by decide +kernel
theorem dX0_sumOfProjects_23 : decode cX0_sumOfProjects 23 = .ok (.istore_n 2, 1) := by decide +kernel
theorem dX0_sumOfProjects_24 : decode cX0_sumOfProjects 24 = .ok (.iinc 3 1, 3) := by decide +kernel
theorem dX0_sumOfProjects_27 : decode cX0_sumOfProjects 27 = .ok (.goto (-23), 3) := by decide +kernel
theorem dX0_sumOfProjects_30 : decode cX0_sumOfProjects 30 = .ok (.iload_n 2, 1) := by decide +kernel
theorem dX0_sumOfProjects_31 : decode cX0_sumOfProjects 31 = .ok (.ireturn, 1) := by decide +kernel
theorem dX0_delayOfTasks_0 : decode cX0_delayOfTasks 0 = .ok (.iconst 0, 1) := by decide +kernel
theorem dX0_delayOfTasks_1 : decode cX0_delayOfTasks 1 = .ok (.istore_n 1, 1) := by decide +kernel
theorem dX0_delayOfTasks_2 : decode cX0_delayOfTasks 2 = .ok (.iconst 0, 1) := by decide +kernel
theorem dX0_delayOfTasks_3 : decode cX0_delayOfTasks 3 = .ok (.istore_n 2, 1) := by decide +kernel
theorem dX0_delayOfTasks_4 : decode cX0_delayOfTasks 4 = .ok (.iload_n 2, 1) := by decide +kernel
theorem dX0_delayOfTasks_5 : decode cX0_delayOfTasks 5 = .ok (.aload_n 0, 1) := by decide +kernel
theorem dX0_delayOfTasks_6 : decode cX0_delayOfTasks 6 = .ok (.getfield 44, 3) := by decide +kernel
theorem dX0_delayOfTasks_9 : decode cX0_delayOfTasks 9 = .ok (.if_icmp .ge 66, 3) := by decide +kernel
theorem dX0_delayOfTasks_12 : decode cX0_delayOfTasks 12 = .ok (.iconst 0, 1) := by decide +kernel
theorem dX0_delayOfTasks_13 : decode cX0_delayOfTasks 13 = .ok (.istore_n 3, 1) := by decide +kernel
theorem dX0_delayOfTasks_14 : decode cX0_delayOfTasks 14 = .ok (.iload_n 3, 1) := by decide +kernel
theorem dX0_delayOfTasks_15 : decode cX0_delayOfTasks 15 = .ok (.aload_n 0, 1) := by decide +kernel
theorem dX0_delayOfTasks_16 : decode cX0_delayOfTasks 16 = .ok (.getfield 14, 3) := by decide +kernel
theorem dX0_delayOfTasks_19 : decode cX0_delayOfTasks 19 = .ok (.iload_n 2, 1) := by decide +kernel
theorem dX0_delayOfTasks_20 : decode cX0_delayOfTasks 20 = .ok (.bipush 8, 2) := by decide +kernel
theorem dX0_delayOfTasks_22 : decode cX0_delayOfTasks 22 = .ok (.invokevirtual 51, 3) := by decide +kernel
theorem dX0_delayOfTasks_25 : decode cX0_delayOfTasks 25 = .ok (.if_icmp .ge 44, 3) := by decide +kernel
theorem dX0_delayOfTasks_28 : decode cX0_delayOfTasks 28 = .ok (.iload_n 2, 1) := by decide +kernel
theorem dX0_delayOfTasks_29 : decode cX0_delayOfTasks 29 = .ok (.iload_n 3, 1) := by decide +kernel
theorem dX0_delayOfTasks_30 : decode cX0_delayOfTasks 30 = .ok (.invokestatic 62, 3) := by decide +kernel
theorem dX0_delayOfTasks_33 : decode cX0_delayOfTasks 33 = .ok (.istore 4, 2) := by decide +kernel
theorem dX0_delayOfTasks_35 : decode cX0_delayOfTasks 35 = .ok (.iload_n 1, 1) := by decide +kernel
theorem dX0_delayOfTasks_36 : decode cX0_delayOfTasks 36 = .ok (.iconst 0, 1) := by decide +kernel
theorem dX0_delayOfTasks_37 : decode cX0_delayOfTasks 37 = .ok (.aload_n 0, 1) := by decide +kernel
theorem dX0_delayOfTasks_38 : decode cX0_delayOfTasks 38 = .ok (.getfield 20, 3) := by decide +kernel
theorem dX0_delayOfTasks_41 : decode cX0_delayOfTasks 41 = .ok (.iload 4, 2) := by decide +kernel
theorem dX0_delayOfTasks_43 : decode cX0_delayOfTasks 43 = .ok (.iconst 1, 1) := by decide +kernel
theorem dX0_delayOfTasks_44 : decode cX0_delayOfTasks 44 = .ok (.invokevirtual 51, 3) := by decide +kernel
theorem dX0_delayOfTasks_47 : decode cX0_delayOfTasks 47 = .ok (.aload_n 0, 1) := by decide +kernel
theorem dX0_delayOfTasks_48 : decode cX0_delayOfTasks 48 = .ok (.getfield 20, 3) := by decide +kernel
theorem dX0_delayOfTasks_51 : decode cX0_delayOfTasks 51 = .ok (.iload 4, 2) := by decide +kernel
theorem dX0_delayOfTasks_53 : decode cX0_delayOfTasks 53 = .ok (.iconst 0, 1) := by decide +kernel
theorem dX0_delayOfTasks_54 : decode cX0_delayOfTasks 54 = .ok (.invokevirtual 51, 3) := by decide +kernel
theorem dX0_delayOfTasks_57 : decode cX0_delayOfTasks 57 = .ok (.isub, 1) := by decide +kernel
theorem dX0_delayOfTasks_58 : decode cX0_delayOfTasks 58 = .ok (.invokestatic 68, 3) := by decide +kernel
theorem dX0_delayOfTasks_61 : decode cX0_delayOfTasks 61 = .ok (.iadd, 1) := by decide +kernel
theorem dX0_delayOfTasks_62 : decode cX0_delayOfTasks 62 = .ok (.istore_n 1, 1) := by decide +kernel
theorem dX0_delayOfTasks_63 : decode cX0_delayOfTasks 63 = .ok (.iinc 3 1, 3) := by decide +kernel
theorem dX0_delayOfTasks_66 : decode cX0_delayOfTasks 66 = .ok (.goto (-52), 3) := by decide +kernel
theorem dX0_delayOfTasks_69 : decode cX0_delayOfTasks 69 = .ok (.iinc 2 1, 3) := by decide +kernel
theorem dX0_delayOfTasks_72 : decode cX0_delayOfTasks 72 = .ok (.goto (-68), 3) := by decide +kernel
theorem dX0_delayOfTasks_75 : decode cX0_delayOfTasks 75 = .ok (.iload_n 1, 1) := by decide +kernel
theorem dX0_delayOfTasks_76 : decode cX0_delayOfTasks 76 = .ok (.ireturn, 1) := by decide +kernel
theorem dX0_leastDaysLeft_0 : decode cX0_leastDaysLeft 0 = .ok (.iconst (-1), 1) := by decide +kernel
theorem dX0_leastDaysLeft_1 : decode cX0_leastDaysLeft 1 = .ok (.istore_n 1, 1) := by decide +kernel
theorem dX0_leastDaysLeft_2 : decode cX0_leastDaysLeft 2 = .ok (.iconst 0, 1) := by decide +kernel
theorem dX0_leastDaysLeft_3 : decode cX0_leastDaysLeft 3 = .ok (.istore_n 2, 1) := by decide +kernel
theorem dX0_leastDaysLeft_4 : decode cX0_leastDaysLeft 4 = .ok (.iload_n 2, 1) := by decide +kernel
theorem dX0_leastDaysLeft_5 : decode cX0_leastDaysLeft 5 = .ok (.aload_n 0, 1) := by decide +kernel
theorem dX0_leastDaysLeft_6 : decode cX0_leastDaysLeft 6 = .ok (.getfield 44, 3) := by decide +kernel
theorem dX0_leastDaysLeft_9 : decode cX0_leastDaysLeft 9 = .ok (.if_icmp .ge 39, 3) := by decide +kernel
theorem dX0_leastDaysLeft_12 : decode cX0_leastDaysLeft 12 = .ok (.aload_n 0, 1) := by decide +kernel
theorem dX0_leastDaysLeft_13 : decode cX0_leastDaysLeft 13 = .ok (.getfield 14, 3) := by decide +kernel
theorem dX0_leastDaysLeft_16 : decode cX0_leastDaysLeft 16 = .ok (.iload_n 2, 1) := by decide +kernel
theorem dX0_leastDaysLeft_17 : decode cX0_leastDaysLeft 17 = .ok (.iconst 2, 1) := by decide +kernel
theorem dX0_leastDaysLeft_18 : decode cX0_leastDaysLeft 18 = .ok (.invokevirtual 51, 3) := by decide +kernel
theorem dX0_leastDaysLeft_21 : decode cX0_leastDaysLeft 21 = .ok (.istore_n 3, 1) := by decide +kernel
theorem dX0_leastDaysLeft_22 : decode cX0_leastDaysLeft 22 = .ok (.aload_n 0, 1) := by decide +kernel
theorem dX0_leastDaysLeft_23 : decode cX0_leastDaysLeft 23 = .ok (.iload_n 2, 1) := by decide +kernel
theorem dX0_leastDaysLeft_24 : decode cX0_leastDaysLeft 24 = .ok (.invokevirtual 55, 3) := by decide +kernel
theorem dX0_leastDaysLeft_27 : decode cX0_leastDaysLeft 27 = .ok (.ifCond .eq 15, 3) := by decide +kernel
theorem dX0_leastDaysLeft_30 : decode cX0_leastDaysLeft 30 = .ok (.iload_n 1, 1) := by decide +kernel
theorem dX0_leastDaysLeft_31 : decode cX0_leastDaysLeft 31 = .ok (.iconst (-1), 1) := by decide +kernel
theorem dX0_leastDaysLeft_32 : decode cX0_leastDaysLeft 32 = .ok (.if_icmp .eq 8, 3) := by decide +kernel
theorem dX0_leastDaysLeft_35 : decode cX0_leastDaysLeft 35 = .ok (.iload_n 3, 1) := by decide +kernel
theorem dX0_leastDaysLeft_36 : decode cX0_leastDaysLeft 36 = .ok (.iload_n 1, 1) := by decide +kernel
theorem dX0_leastDaysLeft_37 : decode cX0_leastDaysLeft 37 = .ok (.if_icmp .ge 5, 3) := by decide +kernel
theorem dX0_leastDaysLeft_40 : decode cX0_leastDaysLeft 40 = .ok (.iload_n 3, 1) := by decide +kernel
theorem dX0_leastDaysLeft_41 : decode cX0_leastDaysLeft 41 = .ok (.istore_n 1, 1) := by decide +kernel
theorem dX0_leastDaysLeft_42 : decode cX0_leastDaysLeft 42 = .ok (.iinc 2 1, 3) := by decide +kernel
theorem dX0_leastDaysLeft_45 : decode cX0_leastDaysLeft 45 = .ok (.goto (-41), 3) := by decide +kernel
theorem dX0_leastDaysLeft_48 : decode cX0_leastDaysLeft 48 = .ok (.iload_n 1, 1) := by decide +kernel
theorem dX0_leastDaysLeft_49 : decode cX0_leastDaysLeft 49 = .ok (.ireturn, 1) := by decide +kernel
theorem dX0_doNextTask_0 : decode cX0_doNextTask 0 = .ok (.iload_n 1, 1) := by decide +kernel
theorem dX0_doNextTask_1 : decode cX0_doNextTask 1 = .ok (.aload_n 0, 1) := by decide +kernel
theorem dX0_doNextTask_2 : decode cX0_doNextTask 2 = .ok (.getfield 14, 3) := by decide +kernel
theorem dX0_doNextTask_5 : decode cX0_doNextTask 5 = .ok (.iload_n 1, 1) := by decide +kernel
theorem dX0_doNextTask_6 : decode cX0_doNextTask 6 = .ok (.bipush 8, 2) := by decide +kernel
theorem dX0_doNextTask_8 : decode cX0_doNextTask 8 = .ok (.invokevirtual 51, 3) := by decide +kernel
theorem dX0_doNextTask_11 : decode cX0_doNextTask 11 = .ok (.invokestatic 62, 3) := by decide +kernel
theorem dX0_doNextTask_14 : decode cX0_doNextTask 14 = .ok (.istore_n 3, 1) := by decide +kernel
theorem dX0_doNextTask_15 : decode cX0_doNextTask 15 = .ok (.aload_n 0, 1) := by decide +kernel
theorem dX0_doNextTask_16 : decode cX0_doNextTask 16 = .ok (.getfield 20, 3) := by decide +kernel
theorem dX0_doNextTask_19 : decode cX0_doNextTask 19 = .ok (.iload_n 3, 1) := by decide +kernel
theorem dX0_doNextTask_20 : decode cX0_doNextTask 20 = .ok (.iconst 0, 1) := by decide +kernel
theorem dX0_doNextTask_21 : decode cX0_doNextTask 21 = .ok (.invokevirtual 51, 3) := by decide +kernel
theorem dX0_doNextTask_24 : decode cX0_doNextTask 24 = .ok (.istore 4, 2) := by decide +kernel
theorem dX0_doNextTask_26 : decode cX0_doNextTask 26 = .ok (.iconst 0, 1) := by decide +kernel
theorem dX0_doNextTask_27 : decode cX0_doNextTask 27 = .ok (.iload 4, 2) := by decide +kernel
theorem dX0_doNextTask_29 : decode cX0_doNextTask 29 = .ok (.iload_n 2, 1) := by decide +kernel
theorem dX0_doNextTask_30 : decode cX0_doNextTask 30 = .ok (.isub, 1) := by decide +kernel
theorem dX0_doNextTask_31 : decode cX0_doNextTask 31 = .ok (.invokestatic 68, 3) := by decide +kernel
theorem dX0_doNextTask_34 : decode cX0_doNextTask 34 = .ok (.istore 5, 2) := by decide +kernel
theorem dX0_doNextTask_36 : decode cX0_doNextTask 36 = .ok (.iconst 0, 1) := by decide +kernel
theorem dX0_doNextTask_37 : decode cX0_doNextTask 37 = .ok (.iload_n 2, 1) := by decide +kernel
theorem dX0_doNextTask_38 : decode cX0_doNextTask 38 = .ok (.iload 4, 2) := by decide +kernel
theorem dX0_doNextTask_40 : decode cX0_doNextTask 40 = .ok (.isub, 1) := by decide +kernel
theorem dX0_doNextTask_41 : decode cX0_doNextTask 41 = .ok (.invokestatic 68, 3) := by decide +kernel
theorem dX0_doNextTask_44 : decode cX0_doNextTask 44 = .ok (.istore 6, 2) := by decide +kernel
theorem dX0_doNextTask_46 : decode cX0_doNextTask 46 = .ok (.aload_n 0, 1) := by decide +kernel
theorem dX0_doNextTask_47 : decode cX0_doNextTask 47 = .ok (.getfield 20, 3) := by decide +kernel
theorem dX0_doNextTask_50 : decode cX0_doNextTask 50 = .ok (.iload_n 3, 1) := by decide +kernel
theorem dX0_doNextTask_51 : decode cX0_doNextTask 51 = .ok (.iconst 1, 1) := by decide +kernel
theorem dX0_doNextTask_52 : decode cX0_doNextTask 52 = .ok (.iload_n 2, 1) := by decide +kernel
theorem dX0_doNextTask_53 : decode cX0_doNextTask 53 = .ok (.invokevirtual 36, 3) := by decide +kernel
theorem dX0_doNextTask_56 : decode cX0_doNextTask 56 = .ok (.aload_n 0, 1) := by decide +kernel
theorem dX0_doNextTask_57 : decode cX0_doNextTask 57 = .ok (.getfield 14, 3) := by decide +kernel
theorem dX0_doNextTask_60 : decode cX0_doNextTask 60 = .ok (.iload_n 1, 1) := by decide +kernel
theorem dX0_doNextTask_61 : decode cX0_doNextTask 61 = .ok (.bipush 8, 2) := by decide +kernel
theorem dX0_doNextTask_63 : decode cX0_doNextTask 63 = .ok (.iconst 1, 1) := by decide +kernel
theorem dX0_doNextTask_64 : decode cX0_doNextTask 64 = .ok (.invokevirtual 65, 3) := by decide +kernel
theorem dX0_doNextTask_67 : decode cX0_doNextTask 67 = .ok (.aload_n 0, 1) := by decide +kernel
theorem dX0_doNextTask_68 : decode cX0_doNextTask 68 = .ok (.getfield 14, 3) := by decide +kernel
theorem dX0_doNextTask_71 : decode cX0_doNextTask 71 = .ok (.iload_n 1, 1) := by decide +kernel
theorem dX0_doNextTask_72 : decode cX0_doNextTask 72 = .ok (.bipush 13, 2) := by decide +kernel
theorem dX0_doNextTask_74 : decode cX0_doNextTask 74 = .ok (.iload_n 2, 1) := by decide +kernel
theorem dX0_doNextTask_75 : decode cX0_doNextTask 75 = .ok (.invokevirtual 65, 3) := by decide +kernel
theorem dX0_doNextTask_78 : decode cX0_doNextTask 78 = .ok (.aload_n 0, 1) := by decide +kernel
theorem dX0_doNextTask_79 : decode cX0_doNextTask 79 = .ok (.iload_n 1, 1) := by decide +kernel
theorem dX0_doNextTask_80 : decode cX0_doNextTask 80 = .ok (.iload 5, 2) := by decide +kernel
theorem dX0_doNextTask_82 : decode cX0_doNextTask 82 = .ok (.ineg, 1) := by decide +kernel
theorem dX0_doNextTask_83 : decode cX0_doNextTask 83 = .ok (.invokevirtual 73, 3) := by decide +kernel
theorem dX0_doNextTask_86 : decode cX0_doNextTask 86 = .ok (.aload_n 0, 1) := by decide +kernel
theorem dX0_doNextTask_87 : decode cX0_doNextTask 87 = .ok (.iload_n 1, 1) := by decide +kernel
theorem dX0_doNextTask_88 : decode cX0_doNextTask 88 = .ok (.iload 5, 2) := by decide +kernel
theorem dX0_doNextTask_90 : decode cX0_doNextTask 90 = .ok (.invokevirtual 76, 3) := by decide +kernel
theorem dX0_doNextTask_93 : decode cX0_doNextTask 93 = .ok (.iload 6, 2) := by decide +kernel
theorem dX0_doNextTask_95 : decode cX0_doNextTask 95 = .ok (.aload_n 0, 1) := by decide +kernel
theorem dX0_doNextTask_96 : decode cX0_doNextTask 96 = .ok (.getfield 14, 3) := by decide +kernel
theorem dX0_doNextTask_99 : decode cX0_doNextTask 99 = .ok (.iload_n 1, 1) := by decide +kernel
theorem dX0_doNextTask_100 : decode cX0_doNextTask 100 = .ok (.iconst 2, 1) := by decide +kernel
theorem dX0_doNextTask_101 : decode cX0_doNextTask 101 = .ok (.invokevirtual 51, 3) := by decide +kernel
theorem dX0_doNextTask_104 : decode cX0_doNextTask 104 = .ok (.invokestatic 79, 3) := by decide +kernel
theorem dX0_doNextTask_107 : decode cX0_doNextTask 107 = .ok (.istore 7, 2) := by decide +kernel
theorem dX0_doNextTask_109 : decode cX0_doNextTask 109 = .ok (.aload_n 0, 1) := by decide +kernel
theorem dX0_doNextTask_110 : decode cX0_doNextTask 110 = .ok (.iload_n 1, 1) := by decide +kernel
theorem dX0_doNextTask_111 : decode cX0_doNextTask 111 = .ok (.iload 7, 2) := by decide +kernel
theorem dX0_doNextTask_113 : decode cX0_doNextTask 113 = .ok (.invokevirtual 73, 3) := by decide +kernel
theorem dX0_doNextTask_116 : decode cX0_doNextTask 116 = .ok (.aload_n 0, 1) := by decide +kernel
theorem dX0_doNextTask_117 : decode cX0_doNextTask 117 = .ok (.iload_n 1, 1) := by decide +kernel
theorem dX0_doNextTask_118 : decode cX0_doNextTask 118 = .ok (.iload 6, 2) := by decide +kernel
theorem dX0_doNextTask_120 : decode cX0_doNextTask 120 = .ok (.iload 7, 2) := by decide +kernel
theorem dX0_doNextTask_122 : decode cX0_doNextTask 122 = .ok (.isub, 1) := by decide +kernel
theorem dX0_doNextTask_123 : decode cX0_doNextTask 123 = .ok (.invokevirtual 82, 3) := by decide +kernel
theorem dX0_doNextTask_126 : decode cX0_doNextTask 126 = .ok (.istore 8, 2) := by decide +kernel
theorem dX0_doNextTask_128 : decode cX0_doNextTask 128 = .ok (.aload_n 0, 1) := by decide +kernel
theorem dX0_doNextTask_129 : decode cX0_doNextTask 129 = .ok (.iload_n 1, 1) := by decide +kernel
theorem dX0_doNextTask_130 : decode cX0_doNextTask 130 = .ok (.iload 6, 2) := by decide +kernel
theorem dX0_doNextTask_132 : decode cX0_doNextTask 132 = .ok (.iload 7, 2) := by decide +kernel
theorem dX0_doNextTask_134 : decode cX0_doNextTask 134 = .ok (.isub, 1) := by decide +kernel
theorem dX0_doNextTask_135 : decode cX0_doNextTask 135 = .ok (.iload 8, 2) := by decide +kernel
theorem dX0_doNextTask_137 : decode cX0_doNextTask 137 = .ok (.isub, 1) := by decide +kernel
theorem dX0_doNextTask_138 : decode cX0_doNextTask 138 = .ok (.invokevirtual 85, 3) := by decide +kernel
theorem dX0_doNextTask_141 : decode cX0_doNextTask 141 = .ok (.istore 9, 2) := by decide +kernel
theorem dX0_doNextTask_143 : decode cX0_doNextTask 143 = .ok (.iload 6, 2) := by decide +kernel
theorem dX0_doNextTask_145 : decode cX0_doNextTask 145 = .ok (.iload 7, 2) := by decide +kernel
theorem dX0_doNextTask_147 : decode cX0_doNextTask 147 = .ok (.isub, 1) := by decide +kernel
theorem dX0_doNextTask_148 : decode cX0_doNextTask 148 = .ok (.iload 8, 2) := by decide +kernel
theorem dX0_doNextTask_150 : decode cX0_doNextTask 150 = .ok (.isub, 1) := by decide +kernel
theorem dX0_doNextTask_151 : decode cX0_doNextTask 151 = .ok (.iload 9, 2) := by decide +kernel
theorem dX0_doNextTask_153 : decode cX0_doNextTask 153 = .ok (.isub, 1) := by decide +kernel
theorem dX0_doNextTask_154 : decode cX0_doNextTask 154 = .ok (.istore 10, 2) := by decide +kernel
theorem dX0_doNextTask_156 : decode cX0_doNextTask 156 = .ok (.aload_n 0, 1) := by decide +kernel
theorem dX0_doNextTask_157 : decode cX0_doNextTask 157 = .ok (.getfield 20, 3) := by decide +kernel
theorem dX0_doNextTask_160 : decode cX0_doNextTask 160 = .ok (.iload_n 3, 1) := by decide +kernel
theorem dX0_doNextTask_161 : decode cX0_doNextTask 161 = .ok (.iconst 2, 1) := by decide +kernel
theorem dX0_doNextTask_162 : decode cX0_doNextTask 162 = .ok (.iload 7, 2) := by decide +kernel
theorem dX0_doNextTask_164 : decode cX0_doNextTask 164 = .ok (.invokevirtual 36, 3) := by decide +kernel
theorem dX0_doNextTask_167 : decode cX0_doNextTask 167 = .ok (.aload_n 0, 1) := by decide +kernel
theorem dX0_doNextTask_168 : decode cX0_doNextTask 168 = .ok (.getfield 20, 3) := by decide +kernel
theorem dX0_doNextTask_171 : decode cX0_doNextTask 171 = .ok (.iload_n 3, 1) := by decide +kernel
theorem dX0_doNextTask_172 : decode cX0_doNextTask 172 = .ok (.iconst 3, 1) := by decide +kernel
theorem dX0_doNextTask_173 : decode cX0_doNextTask 173 = .ok (.iload 8, 2) := by decide +kernel
theorem dX0_doNextTask_175 : decode cX0_doNextTask 175 = .ok (.invokevirtual 36, 3) := by decide +kernel
theorem dX0_doNextTask_178 : decode cX0_doNextTask 178 = .ok (.aload_n 0, 1) := by decide +kernel
theorem dX0_doNextTask_179 : decode cX0_doNextTask 179 = .ok (.getfield 20, 3) := by decide +kernel
theorem dX0_doNextTask_182 : decode cX0_doNextTask 182 = .ok (.iload_n 3, 1) := by decide +kernel
theorem dX0_doNextTask_183 : decode cX0_doNextTask 183 = .ok (.iconst 4, 1) := by decide +kernel
theorem dX0_doNextTask_184 : decode cX0_doNextTask 184 = .ok (.iload 9, 2) := by decide +kernel
theorem dX0_doNextTask_186 : decode cX0_doNextTask 186 = .ok (.invokevirtual 36, 3) := by decide +kernel
theorem dX0_doNextTask_189 : decode cX0_doNextTask 189 = .ok (.aload_n 0, 1) := by decide +kernel
theorem dX0_doNextTask_190 : decode cX0_doNextTask 190 = .ok (.getfield 20, 3) := by decide +kernel
theorem dX0_doNextTask_193 : decode cX0_doNextTask 193 = .ok (.iload_n 3, 1) := by decide +kernel
theorem dX0_doNextTask_194 : decode cX0_doNextTask 194 = .ok (.iconst 5, 1) := by decide +kernel
theorem dX0_doNextTask_195 : decode cX0_doNextTask 195 = .ok (.iload 10, 2) := by decide +kernel
theorem dX0_doNextTask_197 : decode cX0_doNextTask 197 = .ok (.invokevirtual 36, 3) := by decide +kernel
theorem dX0_doNextTask_200 : decode cX0_doNextTask 200 = .ok (.aload_n 0, 1) := by decide +kernel
theorem dX0_doNextTask_201 : decode cX0_doNextTask 201 = .ok (.getfield 14, 3) := by decide +kernel
theorem dX0_doNextTask_204 : decode cX0_doNextTask 204 = .ok (.iload_n 1, 1) := by decide +kernel
theorem dX0_doNextTask_205 : decode cX0_doNextTask 205 = .ok (.bipush 6, 2) := by decide +kernel
theorem dX0_doNextTask_207 : decode cX0_doNextTask 207 = .ok (.iload 10, 2) := by decide +kernel
theorem dX0_doNextTask_209 : decode cX0_doNextTask 209 = .ok (.invokevirtual 65, 3) := by decide +kernel
theorem dX0_doNextTask_212 : decode cX0_doNextTask 212 = .ok (.aload_n 0, 1) := by decide +kernel
theorem dX0_doNextTask_213 : decode cX0_doNextTask 213 = .ok (.iload_n 1, 1) := by decide +kernel
theorem dX0_doNextTask_214 : decode cX0_doNextTask 214 = .ok (.invokevirtual 88, 3) := by decide +kernel
theorem dX0_doNextTask_217 : decode cX0_doNextTask 217 = .ok (.ifCond .eq 30, 3) := by decide +kernel
theorem dX0_doNextTask_220 : decode cX0_doNextTask 220 = .ok (.aload_n 0, 1) := by decide +kernel
theorem dX0_doNextTask_221 : decode cX0_doNextTask 221 = .ok (.iload_n 1, 1) := by decide +kernel
theorem dX0_doNextTask_222 : decode cX0_doNextTask 222 = .ok (.aload_n 0, 1) := by decide +kernel
theorem dX0_doNextTask_223 : decode cX0_doNextTask 223 = .ok (.getfield 14, 3) := by decide +kernel
theorem dX0_doNextTask_226 : decode cX0_doNextTask 226 = .ok (.iload_n 1, 1) := by decide +kernel
theorem dX0_doNextTask_227 : decode cX0_doNextTask 227 = .ok (.iconst 2, 1) := by decide +kernel
theorem dX0_doNextTask_228 : decode cX0_doNextTask 228 = .ok (.invokevirtual 51, 3) := by decide +kernel
theorem dX0_doNextTask_231 : decode cX0_doNextTask 231 = .ok (.aload_n 0, 1) := by decide +kernel
theorem dX0_doNextTask_232 : decode cX0_doNextTask 232 = .ok (.getfield 30, 3) := by decide +kernel
theorem dX0_doNextTask_235 : decode cX0_doNextTask 235 = .ok (.iconst 0, 1) := by decide +kernel
theorem dX0_doNextTask_236 : decode cX0_doNextTask 236 = .ok (.iconst 2, 1) := by decide +kernel
theorem dX0_doNextTask_237 : decode cX0_doNextTask 237 = .ok (.invokevirtual 51, 3) := by decide +kernel
theorem dX0_doNextTask_240 : decode cX0_doNextTask 240 = .ok (.imul, 1) := by decide +kernel
theorem dX0_doNextTask_241 : decode cX0_doNextTask 241 = .ok (.bipush 100, 2) := by decide +kernel
theorem dX0_doNextTask_243 : decode cX0_doNextTask 243 = .ok (.idiv, 1) := by decide +kernel
theorem dX0_doNextTask_244 : decode cX0_doNextTask 244 = .ok (.invokevirtual 76, 3) := by decide +kernel
theorem dX0_doNextTask_247 : decode cX0_doNextTask 247 = .ok (.iload 10, 2) := by decide +kernel
theorem dX0_doNextTask_249 : decode cX0_doNextTask 249 = .ok (.ireturn, 1) := by decide +kernel
theorem dX0_useDays_0 : decode cX0_useDays 0 = .ok (.aload_n 0, 1) := by decide +kernel
theorem dX0_useDays_1 : decode cX0_useDays 1 = .ok (.getfield 14, 3) := by decide +kernel
theorem dX0_useDays_4 : decode cX0_useDays 4 = .ok (.iload_n 1, 1) := by decide +kernel
theorem dX0_useDays_5 : decode cX0_useDays 5 = .ok (.iconst 2, 1) := by decide +kernel
theorem dX0_useDays_6 : decode cX0_useDays 6 = .ok (.iload_n 2, 1) := by decide +kernel
theorem dX0_useDays_7 : decode cX0_useDays 7 = .ok (.ineg, 1) := by decide +kernel
theorem dX0_useDays_8 : decode cX0_useDays 8 = .ok (.invokevirtual 65, 3) := by decide +kernel
theorem dX0_useDays_11 : decode cX0_useDays 11 = .ok (.aload_n 0, 1) := by decide +kernel
theorem dX0_useDays_12 : decode cX0_useDays 12 = .ok (.getfield 14, 3) := by decide +kernel
theorem dX0_useDays_15 : decode cX0_useDays 15 = .ok (.iload_n 1, 1) := by decide +kernel
theorem dX0_useDays_16 : decode cX0_useDays 16 = .ok (.iconst 3, 1) := by decide +kernel
theorem dX0_useDays_17 : decode cX0_useDays 17 = .ok (.iload_n 2, 1) := by decide +kernel
theorem dX0_useDays_18 : decode cX0_useDays 18 = .ok (.invokevirtual 65, 3) := by decide +kernel
theorem dX0_useDays_21 : decode cX0_useDays 21 = .ok (.return_, 1) := by decide +kernel
theorem dX0_callBack_0 : decode cX0_callBack 0 = .ok (.iconst 0, 1) := by decide +kernel
theorem dX0_callBack_1 : decode cX0_callBack 1 = .ok (.istore_n 3, 1) := by decide +kernel
theorem dX0_callBack_2 : decode cX0_callBack 2 = .ok (.iconst 0, 1) := by decide +kernel
theorem dX0_callBack_3 : decode cX0_callBack 3 = .ok (.istore 4, 2) := by decide +kernel
theorem dX0_callBack_5 : decode cX0_callBack 5 = .ok (.aload_n 0, 1) := by decide +kernel
theorem dX0_callBack_6 : decode cX0_callBack 6 = .ok (.getfield 48, 3) := by decide +kernel
theorem dX0_callBack_9 : decode cX0_callBack 9 = .ok (.istore 5, 2) := by decide +kernel
theorem dX0_callBack_11 : decode cX0_callBack 11 = .ok (.iload 5, 2) := by decide +kernel
theorem dX0_callBack_13 : decode cX0_callBack 13 = .ok (.ifCond .le 108, 3) := by decide +kernel
theorem dX0_callBack_16 : decode cX0_callBack 16 = .ok (.iload_n 3, 1) := by decide +kernel
theorem dX0_callBack_17 : decode cX0_callBack 17 = .ok (.iload_n 2, 1) := by decide +kernel
theorem dX0_callBack_18 : decode cX0_callBack 18 = .ok (.if_icmp .ge 103, 3) := by decide +kernel
theorem dX0_callBack_21 : decode cX0_callBack 21 = .ok (.aload_n 0, 1) := by decide +kernel
theorem dX0_callBack_22 : decode cX0_callBack 22 = .ok (.getfield 23, 3) := by decide +kernel
theorem dX0_callBack_25 : decode cX0_callBack 25 = .ok (.iload 4, 2) := by decide +kernel
theorem dX0_callBack_27 : decode cX0_callBack 27 = .ok (.iconst 2, 1) := by decide +kernel
theorem dX0_callBack_28 : decode cX0_callBack 28 = .ok (.invokevirtual 51, 3) := by decide +kernel
theorem dX0_callBack_31 : decode cX0_callBack 31 = .ok (.istore 6, 2) := by decide +kernel
theorem dX0_callBack_33 : decode cX0_callBack 33 = .ok (.iconst 0, 1) := by decide +kernel
theorem dX0_callBack_34 : decode cX0_callBack 34 = .ok (.istore 7, 2) := by decide +kernel
theorem dX0_callBack_36 : decode cX0_callBack 36 = .ok (.aload_n 0, 1) := by decide +kernel
theorem dX0_callBack_37 : decode cX0_callBack 37 = .ok (.getfield 23, 3) := by decide +kernel
theorem dX0_callBack_40 : decode cX0_callBack 40 = .ok (.iload 4, 2) := by decide +kernel
theorem dX0_callBack_42 : decode cX0_callBack 42 = .ok (.iconst 0, 1) := by decide +kernel
theorem dX0_callBack_43 : decode cX0_callBack 43 = .ok (.invokevirtual 51, 3) := by decide +kernel
theorem dX0_callBack_46 : decode cX0_callBack 46 = .ok (.iload_n 1, 1) := by decide +kernel
theorem dX0_callBack_47 : decode cX0_callBack 47 = .ok (.if_icmp .ne 58, 3) := by decide +kernel
theorem dX0_callBack_50 : decode cX0_callBack 50 = .ok (.aload_n 0, 1) := by decide +kernel
theorem dX0_callBack_51 : decode cX0_callBack 51 = .ok (.getfield 14, 3) := by decide +kernel
theorem dX0_callBack_54 : decode cX0_callBack 54 = .ok (.aload_n 0, 1) := by decide +kernel
theorem dX0_callBack_55 : decode cX0_callBack 55 = .ok (.getfield 23, 3) := by decide +kernel
theorem dX0_callBack_58 : decode cX0_callBack 58 = .ok (.iload 4, 2) := by decide +kernel
theorem dX0_callBack_60 : decode cX0_callBack 60 = .ok (.iconst 1, 1) := by decide +kernel
theorem dX0_callBack_61 : decode cX0_callBack 61 = .ok (.invokevirtual 51, 3) := by decide +kernel
theorem dX0_callBack_64 : decode cX0_callBack 64 = .ok (.iconst 2, 1) := by decide +kernel
theorem dX0_callBack_65 : decode cX0_callBack 65 = .ok (.invokevirtual 51, 3) := by decide +kernel
theorem dX0_callBack_68 : decode cX0_callBack 68 = .ok (.istore 8, 2) := by decide +kernel
theorem dX0_callBack_70 : decode cX0_callBack 70 = .ok (.iload_n 2, 1) := by decide +kernel
theorem dX0_callBack_71 : decode cX0_callBack 71 = .ok (.iload_n 3, 1) := by decide +kernel
theorem dX0_callBack_72 : decode cX0_callBack 72 = .ok (.isub, 1) := by decide +kernel
theorem dX0_callBack_73 : decode cX0_callBack 73 = .ok (.iload 8, 2) := by decide +kernel
theorem dX0_callBack_75 : decode cX0_callBack 75 = .ok (.iload 6, 2) := by decide +kernel
theorem dX0_callBack_77 : decode cX0_callBack 77 = .ok (.invokestatic 79, 3) := by decide +kernel
theorem dX0_callBack_80 : decode cX0_callBack 80 = .ok (.invokestatic 79, 3) := by decide +kernel
theorem dX0_callBack_83 : decode cX0_callBack 83 = .ok (.istore 7, 2) := by decide +kernel
theorem dX0_callBack_85 : decode cX0_callBack 85 = .ok (.aload_n 0, 1) := by decide +kernel
theorem dX0_callBack_86 : decode cX0_callBack 86 = .ok (.iload 4, 2) := by decide +kernel
theorem dX0_callBack_88 : decode cX0_callBack 88 = .ok (.iload 7, 2) := by decide +kernel
theorem dX0_callBack_90 : decode cX0_callBack 90 = .ok (.invokevirtual 91, 3) := by decide +kernel
theorem dX0_callBack_93 : decode cX0_callBack 93 = .ok (.aload_n 0, 1) := by decide +kernel
theorem dX0_callBack_94 : decode cX0_callBack 94 = .ok (.iload_n 1, 1) := by decide +kernel
theorem dX0_callBack_95 : decode cX0_callBack 95 = .ok (.iload 7, 2) := by decide +kernel
theorem dX0_callBack_97 : decode cX0_callBack 97 = .ok (.invokevirtual 73, 3) := by decide +kernel
theorem dX0_callBack_100 : decode cX0_callBack 100 = .ok (.iload_n 3, 1) := by decide +kernel
theorem dX0_callBack_101 : decode cX0_callBack 101 = .ok (.iload 7, 2) := by decide +kernel
theorem dX0_callBack_103 : decode cX0_callBack 103 = .ok (.iadd, 1) := by decide +kernel
theorem dX0_callBack_104 : decode cX0_callBack 104 = .ok (.istore_n 3, 1) := by decide +kernel
theorem dX0_callBack_105 : decode cX0_callBack 105 = .ok (.iload 7, 2) := by decide +kernel
theorem dX0_callBack_107 : decode cX0_callBack 107 = .ok (.iload 6, 2) := by decide +kernel
theorem dX0_callBack_109 : decode cX0_callBack 109 = .ok (.if_icmp .ge 6, 3) := by decide +kernel
theorem dX0_callBack_112 : decode cX0_callBack 112 = .ok (.iinc 4 1, 3) := by decide +kernel
theorem dX0_callBack_115 : decode cX0_callBack 115 = .ok (.iinc 5 (-1), 3) := by decide +kernel
theorem dX0_callBack_118 : decode cX0_callBack 118 = .ok (.goto (-107), 3) := by decide +kernel
theorem dX0_callBack_121 : decode cX0_callBack 121 = .ok (.iload_n 3, 1) := by decide +kernel
theorem dX0_callBack_122 : decode cX0_callBack 122 = .ok (.ireturn, 1) := by decide +kernel
theorem dX0_borrow_0 : decode cX0_borrow 0 = .ok (.aload_n 0, 1) := by decide +kernel
theorem dX0_borrow_1 : decode cX0_borrow 1 = .ok (.iload_n 1, 1) := by decide +kernel
theorem dX0_borrow_2 : decode cX0_borrow 2 = .ok (.invokevirtual 94, 3) := by decide +kernel
theorem dX0_borrow_5 : decode cX0_borrow 5 = .ok (.istore_n 3, 1) := by decide +kernel
theorem dX0_borrow_6 : decode cX0_borrow 6 = .ok (.iconst 0, 1) := by decide +kernel
theorem dX0_borrow_7 : decode cX0_borrow 7 = .ok (.istore 4, 2) := by decide +kernel
theorem dX0_borrow_9 : decode cX0_borrow 9 = .ok (.iconst 0, 1) := by decide +kernel
theorem dX0_borrow_10 : decode cX0_borrow 10 = .ok (.istore 5, 2) := by decide +kernel
theorem dX0_borrow_12 : decode cX0_borrow 12 = .ok (.iload 5, 2) := by decide +kernel
theorem dX0_borrow_14 : decode cX0_borrow 14 = .ok (.iload_n 3, 1) := by decide +kernel
theorem dX0_borrow_15 : decode cX0_borrow 15 = .ok (.if_icmp .ge 65, 3) := by decide +kernel
theorem dX0_borrow_18 : decode cX0_borrow 18 = .ok (.iload 4, 2) := by decide +kernel
theorem dX0_borrow_20 : decode cX0_borrow 20 = .ok (.iload_n 2, 1) := by decide +kernel
theorem dX0_borrow_21 : decode cX0_borrow 21 = .ok (.if_icmp .ge 59, 3) := by decide +kernel
theorem dX0_borrow_24 : decode cX0_borrow 24 = .ok (.iload_n 2, 1) := by decide +kernel
theorem dX0_borrow_25 : decode cX0_borrow 25 = .ok (.iload 4, 2) := by decide +kernel
theorem dX0_borrow_27 : decode cX0_borrow 27 = .ok (.isub, 1) := by decide +kernel
theorem dX0_borrow_28 : decode cX0_borrow 28 = .ok (.aload_n 0, 1) := by decide +kernel
theorem dX0_borrow_29 : decode cX0_borrow 29 = .ok (.getfield 33, 3) := by decide +kernel
theorem dX0_borrow_32 : decode cX0_borrow 32 = .ok (.iload 5, 2) := by decide +kernel
theorem dX0_borrow_34 : decode cX0_borrow 34 = .ok (.iconst 1, 1) := by decide +kernel
theorem dX0_borrow_35 : decode cX0_borrow 35 = .ok (.invokevirtual 51, 3) := by decide +kernel
theorem dX0_borrow_38 : decode cX0_borrow 38 = .ok (.invokestatic 79, 3) := by decide +kernel
theorem dX0_borrow_41 : decode cX0_borrow 41 = .ok (.istore 6, 2) := by decide +kernel
theorem dX0_borrow_43 : decode cX0_borrow 43 = .ok (.aload_n 0, 1) := by decide +kernel
theorem dX0_borrow_44 : decode cX0_borrow 44 = .ok (.aload_n 0, 1) := by decide +kernel
theorem dX0_borrow_45 : decode cX0_borrow 45 = .ok (.getfield 33, 3) := by decide +kernel
theorem dX0_borrow_48 : decode cX0_borrow 48 = .ok (.iload 5, 2) := by decide +kernel
theorem dX0_borrow_50 : decode cX0_borrow 50 = .ok (.iconst 0, 1) := by decide +kernel
theorem dX0_borrow_51 : decode cX0_borrow 51 = .ok (.invokevirtual 51, 3) := by decide +kernel
theorem dX0_borrow_54 : decode cX0_borrow 54 = .ok (.iload_n 1, 1) := by decide +kernel
theorem dX0_borrow_55 : decode cX0_borrow 55 = .ok (.iload 6, 2) := by decide +kernel
theorem dX0_borrow_57 : decode cX0_borrow 57 = .ok (.invokevirtual 98, 3) := by decide +kernel
theorem dX0_borrow_60 : decode cX0_borrow 60 = .ok (.aload_n 0, 1) := by decide +kernel
theorem dX0_borrow_61 : decode cX0_borrow 61 = .ok (.iload_n 1, 1) := by decide +kernel
theorem dX0_borrow_62 : decode cX0_borrow 62 = .ok (.iload 6, 2) := by decide +kernel
theorem dX0_borrow_64 : decode cX0_borrow 64 = .ok (.invokevirtual 73, 3) := by decide +kernel
theorem dX0_borrow_67 : decode cX0_borrow 67 = .ok (.iload 4, 2) := by decide +kernel
theorem dX0_borrow_69 : decode cX0_borrow 69 = .ok (.iload 6, 2) := by decide +kernel
theorem dX0_borrow_71 : decode cX0_borrow 71 = .ok (.iadd, 1) := by decide +kernel
theorem dX0_borrow_72 : decode cX0_borrow 72 = .ok (.istore 4, 2) := by decide +kernel
theorem dX0_borrow_74 : decode cX0_borrow 74 = .ok (.iinc 5 1, 3) := by decide +kernel
theorem dX0_borrow_77 : decode cX0_borrow 77 = .ok (.goto (-65), 3) := by decide +kernel
theorem dX0_borrow_80 : decode cX0_borrow 80 = .ok (.iload 4, 2) := by decide +kernel
theorem dX0_borrow_82 : decode cX0_borrow 82 = .ok (.ireturn, 1) := by decide +kernel
theorem dX0_lenderAt_0 : decode cX0_lenderAt 0 = .ok (.aload_n 0, 1) := by decide +kernel
theorem dX0_lenderAt_1 : decode cX0_lenderAt 1 = .ok (.iload_n 1, 1) := by decide +kernel
theorem dX0_lenderAt_2 : decode cX0_lenderAt 2 = .ok (.invokevirtual 55, 3) := by decide +kernel
theorem dX0_lenderAt_5 : decode cX0_lenderAt 5 = .ok (.ifCond .eq 12, 3) := by decide +kernel
theorem dX0_lenderAt_8 : decode cX0_lenderAt 8 = .ok (.iload_n 2, 1) := by decide +kernel
theorem dX0_lenderAt_9 : decode cX0_lenderAt 9 = .ok (.aload_n 0, 1) := by decide +kernel
theorem dX0_lenderAt_10 : decode cX0_lenderAt 10 = .ok (.iload_n 1, 1) := by decide +kernel
theorem dX0_lenderAt_11 : decode cX0_lenderAt 11 = .ok (.invokevirtual 94, 3) := by decide +kernel
theorem dX0_lenderAt_14 : decode cX0_lenderAt 14 = .ok (.if_icmp .lt 5, 3) := by decide +kernel
theorem dX0_lenderAt_17 : decode cX0_lenderAt 17 = .ok (.iconst (-1), 1) := by decide +kernel
theorem dX0_lenderAt_18 : decode cX0_lenderAt 18 = .ok (.ireturn, 1) := by decide +kernel
theorem dX0_lenderAt_19 : decode cX0_lenderAt 19 = .ok (.aload_n 0, 1) := by decide +kernel
theorem dX0_lenderAt_20 : decode cX0_lenderAt 20 = .ok (.getfield 33, 3) := by decide +kernel
theorem dX0_lenderAt_23 : decode cX0_lenderAt 23 = .ok (.iload_n 2, 1) := by decide +kernel
theorem dX0_lenderAt_24 : decode cX0_lenderAt 24 = .ok (.iconst 0, 1) := by decide +kernel
theorem dX0_lenderAt_25 : decode cX0_lenderAt 25 = .ok (.invokevirtual 51, 3) := by decide +kernel
theorem dX0_lenderAt_28 : decode cX0_lenderAt 28 = .ok (.ireturn, 1) := by decide +kernel
theorem dX0_queueLenders_0 : decode cX0_queueLenders 0 = .ok (.iconst 0, 1) := by decide +kernel
theorem dX0_queueLenders_1 : decode cX0_queueLenders 1 = .ok (.istore_n 2, 1) := by decide +kernel
theorem dX0_queueLenders_2 : decode cX0_queueLenders 2 = .ok (.iconst 0, 1) := by decide +kernel
theorem dX0_queueLenders_3 : decode cX0_queueLenders 3 = .ok (.istore_n 3, 1) := by decide +kernel
theorem dX0_queueLenders_4 : decode cX0_queueLenders 4 = .ok (.iload_n 3, 1) := by decide +kernel
theorem dX0_queueLenders_5 : decode cX0_queueLenders 5 = .ok (.aload_n 0, 1) := by decide +kernel
theorem dX0_queueLenders_6 : decode cX0_queueLenders 6 = .ok (.getfield 44, 3) := by decide +kernel
theorem dX0_queueLenders_9 : decode cX0_queueLenders 9 = .ok (.if_icmp .ge 126, 3) := by decide +kernel
theorem dX0_queueLenders_12 : decode cX0_queueLenders 12 = .ok (.iload_n 3, 1) := by decide +kernel
theorem dX0_queueLenders_13 : decode cX0_queueLenders 13 = .ok (.iload_n 1, 1) := by decide +kernel
theorem dX0_queueLenders_14 : decode cX0_queueLenders 14 = .ok (.if_icmp .eq 20, 3) := by decide +kernel
theorem dX0_queueLenders_17 : decode cX0_queueLenders 17 = .ok (.aload_n 0, 1) := by decide +kernel
theorem dX0_queueLenders_18 : decode cX0_queueLenders 18 = .ok (.iload_n 3, 1) := by decide +kernel
theorem dX0_queueLenders_19 : decode cX0_queueLenders 19 = .ok (.invokevirtual 55, 3) := by decide +kernel
theorem dX0_queueLenders_22 : decode cX0_queueLenders 22 = .ok (.ifCond .eq 12, 3) := by decide +kernel
theorem dX0_queueLenders_25 : decode cX0_queueLenders 25 = .ok (.aload_n 0, 1) := by decide +kernel
theorem dX0_queueLenders_26 : decode cX0_queueLenders 26 = .ok (.iload_n 3, 1) := by decide +kernel
theorem dX0_queueLenders_27 : decode cX0_queueLenders 27 = .ok (.iconst 0, 1) := by decide +kernel
theorem dX0_queueLenders_28 : decode cX0_queueLenders 28 = .ok (.invokevirtual 59, 3) := by decide +kernel
theorem dX0_queueLenders_31 : decode cX0_queueLenders 31 = .ok (.goto 4, 3) := by decide +kernel
theorem dX0_queueLenders_34 : decode cX0_queueLenders 34 = .ok (.iconst 0, 1) := by decide +kernel
theorem dX0_queueLenders_35 : decode cX0_queueLenders 35 = .ok (.istore 4, 2) := by decide +kernel
theorem dX0_queueLenders_37 : decode cX0_queueLenders 37 = .ok (.iload 4, 2) := by decide +kernel
theorem dX0_queueLenders_39 : decode cX0_queueLenders 39 = .ok (.ifCond .le 90, 3) := by decide +kernel
theorem dX0_queueLenders_42 : decode cX0_queueLenders 42 = .ok (.aload_n 0, 1) := by decide +kernel
theorem dX0_queueLenders_43 : decode cX0_queueLenders 43 = .ok (.iload_n 3, 1) := by decide +kernel
theorem dX0_queueLenders_44 : decode cX0_queueLenders 44 = .ok (.iload 4, 2) := by decide +kernel
theorem dX0_queueLenders_46 : decode cX0_queueLenders 46 = .ok (.invokevirtual 101, 3) := by decide +kernel
theorem dX0_queueLenders_49 : decode cX0_queueLenders 49 = .ok (.istore 5, 2) := by decide +kernel
theorem dX0_queueLenders_51 : decode cX0_queueLenders 51 = .ok (.iload_n 2, 1) := by decide +kernel
theorem dX0_queueLenders_52 : decode cX0_queueLenders 52 = .ok (.istore 6, 2) := by decide +kernel
theorem dX0_queueLenders_54 : decode cX0_queueLenders 54 = .ok (.iload 6, 2) := by decide +kernel
theorem dX0_queueLenders_56 : decode cX0_queueLenders 56 = .ok (.ifCond .le 26, 3) := by decide +kernel
theorem dX0_queueLenders_59 : decode cX0_queueLenders 59 = .ok (.aload_n 0, 1) := by decide +kernel
theorem dX0_queueLenders_60 : decode cX0_queueLenders 60 = .ok (.getfield 33, 3) := by decide +kernel
theorem dX0_queueLenders_63 : decode cX0_queueLenders 63 = .ok (.iload 6, 2) := by decide +kernel
theorem dX0_queueLenders_65 : decode cX0_queueLenders 65 = .ok (.iconst 1, 1) := by decide +kernel
theorem dX0_queueLenders_66 : decode cX0_queueLenders 66 = .ok (.isub, 1) := by decide +kernel
theorem dX0_queueLenders_67 : decode cX0_queueLenders 67 = .ok (.iconst 2, 1) := by decide +kernel
theorem dX0_queueLenders_68 : decode cX0_queueLenders 68 = .ok (.invokevirtual 51, 3) := by decide +kernel
theorem dX0_queueLenders_71 : decode cX0_queueLenders 71 = .ok (.iload 5, 2) := by decide +kernel
theorem dX0_queueLenders_73 : decode cX0_queueLenders 73 = .ok (.if_icmp .ge 9, 3) := by decide +kernel
theorem dX0_queueLenders_76 : decode cX0_queueLenders 76 = .ok (.iinc 6 (-1), 3) := by decide +kernel
theorem dX0_queueLenders_79 : decode cX0_queueLenders 79 = .ok (.goto (-25), 3) := by decide +kernel
theorem dX0_queueLenders_82 : decode cX0_queueLenders 82 = .ok (.aload_n 0, 1) := by decide +kernel
theorem dX0_queueLenders_83 : decode cX0_queueLenders 83 = .ok (.getfield 33, 3) := by decide +kernel
theorem dX0_queueLenders_86 : decode cX0_queueLenders 86 = .ok (.iload 6, 2) := by decide +kernel
theorem dX0_queueLenders_88 : decode cX0_queueLenders 88 = .ok (.invokevirtual 104, 3) := by decide +kernel
theorem dX0_queueLenders_91 : decode cX0_queueLenders 91 = .ok (.aload_n 0, 1) := by decide +kernel
theorem dX0_queueLenders_92 : decode cX0_queueLenders 92 = .ok (.getfield 33, 3) := by decide +kernel
theorem dX0_queueLenders_95 : decode cX0_queueLenders 95 = .ok (.iload 6, 2) := by decide +kernel
theorem dX0_queueLenders_97 : decode cX0_queueLenders 97 = .ok (.iconst 0, 1) := by decide +kernel
theorem dX0_queueLenders_98 : decode cX0_queueLenders 98 = .ok (.iload_n 3, 1) := by decide +kernel
theorem dX0_queueLenders_99 : decode cX0_queueLenders 99 = .ok (.invokevirtual 36, 3) := by decide +kernel
theorem dX0_queueLenders_102 : decode cX0_queueLenders 102 = .ok (.aload_n 0, 1) := by decide +kernel
theorem dX0_queueLenders_103 : decode cX0_queueLenders 103 = .ok (.getfield 33, 3) := by decide +kernel
theorem dX0_queueLenders_106 : decode cX0_queueLenders 106 = .ok (.iload 6, 2) := by decide +kernel
theorem dX0_queueLenders_108 : decode cX0_queueLenders 108 = .ok (.iconst 1, 1) := by decide +kernel
theorem dX0_queueLenders_109 : decode cX0_queueLenders 109 = .ok (.iload 4, 2) := by decide +kernel
theorem dX0_queueLenders_111 : decode cX0_queueLenders 111 = .ok (.invokevirtual 36, 3) := by decide +kernel
theorem dX0_queueLenders_114 : decode cX0_queueLenders 114 = .ok (.aload_n 0, 1) := by decide +kernel
theorem dX0_queueLenders_115 : decode cX0_queueLenders 115 = .ok (.getfield 33, 3) := by decide +kernel
theorem dX0_queueLenders_118 : decode cX0_queueLenders 118 = .ok (.iload 6, 2) := by decide +kernel
theorem dX0_queueLenders_120 : decode cX0_queueLenders 120 = .ok (.iconst 2, 1) := by decide +kernel
theorem dX0_queueLenders_121 : decode cX0_queueLenders 121 = .ok (.iload 5, 2) := by decide +kernel
theorem dX0_queueLenders_123 : decode cX0_queueLenders 123 = .ok (.invokevirtual 36, 3) := by decide +kernel
theorem dX0_queueLenders_126 : decode cX0_queueLenders 126 = .ok (.iinc 2 1, 3) := by decide +kernel
theorem dX0_queueLenders_129 : decode cX0_queueLenders 129 = .ok (.iinc 3 1, 3) := by decide +kernel
theorem dX0_queueLenders_132 : decode cX0_queueLenders 132 = .ok (.goto (-128), 3) := by decide +kernel
theorem dX0_queueLenders_135 : decode cX0_queueLenders 135 = .ok (.iload_n 2, 1) := by decide +kernel
theorem dX0_queueLenders_136 : decode cX0_queueLenders 136 = .ok (.ireturn, 1) := by decide +kernel
theorem dX0_weightOfLender_0 : decode cX0_weightOfLender 0 = .ok (.aload_n 0, 1) := by decide +kernel
theorem dX0_weightOfLender_1 : decode cX0_weightOfLender 1 = .ok (.getfield 30, 3) := by decide +kernel
theorem dX0_weightOfLender_4 : decode cX0_weightOfLender 4 = .ok (.iconst 0, 1) := by decide +kernel
theorem dX0_weightOfLender_5 : decode cX0_weightOfLender 5 = .ok (.iconst 0, 1) := by decide +kernel
theorem dX0_weightOfLender_6 : decode cX0_weightOfLender 6 = .ok (.invokevirtual 51, 3) := by decide +kernel
theorem dX0_weightOfLender_9 : decode cX0_weightOfLender 9 = .ok (.lookupswitch 39 #[(0, 27), (1, 37)], 27) := by decide +kernel
theorem dX0_weightOfLender_36 : decode cX0_weightOfLender 36 = .ok (.aload_n 0, 1) := by decide +kernel
theorem dX0_weightOfLender_37 : decode cX0_weightOfLender 37 = .ok (.getfield 14, 3) := by decide +kernel
theorem dX0_weightOfLender_40 : decode cX0_weightOfLender 40 = .ok (.iload_n 1, 1) := by decide +kernel
theorem dX0_weightOfLender_41 : decode cX0_weightOfLender 41 = .ok (.iconst 0, 1) := by decide +kernel
theorem dX0_weightOfLender_42 : decode cX0_weightOfLender 42 = .ok (.invokevirtual 51, 3) := by decide +kernel
theorem dX0_weightOfLender_45 : decode cX0_weightOfLender 45 = .ok (.ireturn, 1) := by decide +kernel
theorem dX0_weightOfLender_46 : decode cX0_weightOfLender 46 = .ok (.iload_n 2, 1) := by decide +kernel
theorem dX0_weightOfLender_47 : decode cX0_weightOfLender 47 = .ok (.ireturn, 1) := by decide +kernel
theorem dX0_weightOfLender_48 : decode cX0_weightOfLender 48 = .ok (.aload_n 0, 1) := by decide +kernel
theorem dX0_weightOfLender_49 : decode cX0_weightOfLender 49 = .ok (.getfield 14, 3) := by decide +kernel
theorem dX0_weightOfLender_52 : decode cX0_weightOfLender 52 = .ok (.iload_n 1, 1) := by decide +kernel
theorem dX0_weightOfLender_53 : decode cX0_weightOfLender 53 = .ok (.iconst 5, 1) := by decide +kernel
theorem dX0_weightOfLender_54 : decode cX0_weightOfLender 54 = .ok (.invokevirtual 51, 3) := by decide +kernel
theorem dX0_weightOfLender_57 : decode cX0_weightOfLender 57 = .ok (.ineg, 1) := by decide +kernel
theorem dX0_weightOfLender_58 : decode cX0_weightOfLender 58 = .ok (.ireturn, 1) := by decide +kernel
theorem dX0_lendableDays_0 : decode cX0_lendableDays 0 = .ok (.aload_n 0, 1) := by decide +kernel
theorem dX0_lendableDays_1 : decode cX0_lendableDays 1 = .ok (.getfield 14, 3) := by decide +kernel
theorem dX0_lendableDays_4 : decode cX0_lendableDays 4 = .ok (.iload_n 1, 1) := by decide +kernel
theorem dX0_lendableDays_5 : decode cX0_lendableDays 5 = .ok (.iconst 1, 1) := by decide +kernel
theorem dX0_lendableDays_6 : decode cX0_lendableDays 6 = .ok (.invokevirtual 51, 3) := by decide +kernel
theorem dX0_lendableDays_9 : decode cX0_lendableDays 9 = .ok (.aload_n 0, 1) := by decide +kernel
theorem dX0_lendableDays_10 : decode cX0_lendableDays 10 = .ok (.getfield 30, 3) := by decide +kernel
theorem dX0_lendableDays_13 : decode cX0_lendableDays 13 = .ok (.iconst 0, 1) := by decide +kernel
theorem dX0_lendableDays_14 : decode cX0_lendableDays 14 = .ok (.iconst 1, 1) := by decide +kernel
theorem dX0_lendableDays_15 : decode cX0_lendableDays 15 = .ok (.invokevirtual 51, 3) := by decide +kernel
theorem dX0_lendableDays_18 : decode cX0_lendableDays 18 = .ok (.imul, 1) := by decide +kernel
theorem dX0_lendableDays_19 : decode cX0_lendableDays 19 = .ok (.bipush 100, 2) := by decide +kernel
theorem dX0_lendableDays_21 : decode cX0_lendableDays 21 = .ok (.idiv, 1) := by decide +kernel
theorem dX0_lendableDays_22 : decode cX0_lendableDays 22 = .ok (.istore_n 3, 1) := by decide +kernel
theorem dX0_lendableDays_23 : decode cX0_lendableDays 23 = .ok (.iconst 0, 1) := by decide +kernel
theorem dX0_lendableDays_24 : decode cX0_lendableDays 24 = .ok (.aload_n 0, 1) := by decide +kernel
theorem dX0_lendableDays_25 : decode cX0_lendableDays 25 = .ok (.getfield 14, 3) := by decide +kernel
theorem dX0_lendableDays_28 : decode cX0_lendableDays 28 = .ok (.iload_n 1, 1) := by decide +kernel
theorem dX0_lendableDays_29 : decode cX0_lendableDays 29 = .ok (.iconst 2, 1) := by decide +kernel
theorem dX0_lendableDays_30 : decode cX0_lendableDays 30 = .ok (.invokevirtual 51, 3) := by decide +kernel
theorem dX0_lendableDays_33 : decode cX0_lendableDays 33 = .ok (.iload_n 2, 1) := by decide +kernel
theorem dX0_lendableDays_34 : decode cX0_lendableDays 34 = .ok (.isub, 1) := by decide +kernel
theorem dX0_lendableDays_35 : decode cX0_lendableDays 35 = .ok (.iload_n 3, 1) := by decide +kernel
theorem dX0_lendableDays_36 : decode cX0_lendableDays 36 = .ok (.isub, 1) := by decide +kernel
theorem dX0_lendableDays_37 : decode cX0_lendableDays 37 = .ok (.invokestatic 68, 3) := by decide +kernel
theorem dX0_lendableDays_40 : decode cX0_lendableDays 40 = .ok (.ireturn, 1) := by decide +kernel
theorem dX0_placeOfLoan_0 : decode cX0_placeOfLoan 0 = .ok (.iconst 0, 1) := by decide +kernel
theorem dX0_placeOfLoan_1 : decode cX0_placeOfLoan 1 = .ok (.istore_n 3, 1) := by decide +kernel
theorem dX0_placeOfLoan_2 : decode cX0_placeOfLoan 2 = .ok (.iload_n 3, 1) := by decide +kernel
theorem dX0_placeOfLoan_3 : decode cX0_placeOfLoan 3 = .ok (.aload_n 0, 1) := by decide +kernel
theorem dX0_placeOfLoan_4 : decode cX0_placeOfLoan 4 = .ok (.getfield 48, 3) := by decide +kernel
theorem dX0_placeOfLoan_7 : decode cX0_placeOfLoan 7 = .ok (.if_icmp .ge 37, 3) := by decide +kernel
theorem dX0_placeOfLoan_10 : decode cX0_placeOfLoan 10 = .ok (.aload_n 0, 1) := by decide +kernel
theorem dX0_placeOfLoan_11 : decode cX0_placeOfLoan 11 = .ok (.getfield 23, 3) := by decide +kernel
theorem dX0_placeOfLoan_14 : decode cX0_placeOfLoan 14 = .ok (.iload_n 3, 1) := by decide +kernel
theorem dX0_placeOfLoan_15 : decode cX0_placeOfLoan 15 = .ok (.iconst 0, 1) := by decide +kernel
theorem dX0_placeOfLoan_16 : decode cX0_placeOfLoan 16 = .ok (.invokevirtual 51, 3) := by decide +kernel
theorem dX0_placeOfLoan_19 : decode cX0_placeOfLoan 19 = .ok (.iload_n 1, 1) := by decide +kernel
theorem dX0_placeOfLoan_20 : decode cX0_placeOfLoan 20 = .ok (.if_icmp .ne 18, 3) := by decide +kernel
theorem dX0_placeOfLoan_23 : decode cX0_placeOfLoan 23 = .ok (.aload_n 0, 1) := by decide +kernel
theorem dX0_placeOfLoan_24 : decode cX0_placeOfLoan 24 = .ok (.getfield 23, 3) := by decide +kernel
theorem dX0_placeOfLoan_27 : decode cX0_placeOfLoan 27 = .ok (.iload_n 3, 1) := by decide +kernel
theorem dX0_placeOfLoan_28 : decode cX0_placeOfLoan 28 = .ok (.iconst 1, 1) := by decide +kernel
theorem dX0_placeOfLoan_29 : decode cX0_placeOfLoan 29 = .ok (.invokevirtual 51, 3) := by decide +kernel
theorem dX0_placeOfLoan_32 : decode cX0_placeOfLoan 32 = .ok (.iload_n 2, 1) := by decide +kernel
theorem dX0_placeOfLoan_33 : decode cX0_placeOfLoan 33 = .ok (.if_icmp .ne 5, 3) := by decide +kernel
theorem dX0_placeOfLoan_36 : decode cX0_placeOfLoan 36 = .ok (.iload_n 3, 1) := by decide +kernel
theorem dX0_placeOfLoan_37 : decode cX0_placeOfLoan 37 = .ok (.ireturn, 1) := by decide +kernel
theorem dX0_placeOfLoan_38 : decode cX0_placeOfLoan 38 = .ok (.iinc 3 1, 3) := by decide +kernel
theorem dX0_placeOfLoan_41 : decode cX0_placeOfLoan 41 = .ok (.goto (-39), 3) := by decide +kernel
theorem dX0_placeOfLoan_44 : decode cX0_placeOfLoan 44 = .ok (.iconst (-1), 1) := by decide +kernel
theorem dX0_placeOfLoan_45 : decode cX0_placeOfLoan 45 = .ok (.ireturn, 1) := by decide +kernel
theorem dX0_daysOwed_0 : decode cX0_daysOwed 0 = .ok (.aload_n 0, 1) := by decide +kernel
theorem dX0_daysOwed_1 : decode cX0_daysOwed 1 = .ok (.getfield 23, 3) := by decide +kernel
theorem dX0_daysOwed_4 : decode cX0_daysOwed 4 = .ok (.aload_n 0, 1) := by decide +kernel
theorem dX0_daysOwed_5 : decode cX0_daysOwed 5 = .ok (.iload_n 2, 1) := by decide +kernel
theorem dX0_daysOwed_6 : decode cX0_daysOwed 6 = .ok (.iload_n 1, 1) := by decide +kernel
theorem dX0_daysOwed_7 : decode cX0_daysOwed 7 = .ok (.invokevirtual 108, 3) := by decide +kernel
theorem dX0_daysOwed_10 : decode cX0_daysOwed 10 = .ok (.iconst 2, 1) := by decide +kernel
theorem dX0_daysOwed_11 : decode cX0_daysOwed 11 = .ok (.invokevirtual 51, 3) := by decide +kernel
theorem dX0_daysOwed_14 : decode cX0_daysOwed 14 = .ok (.ireturn, 1) := by decide +kernel
theorem dX0_lendDays_0 : decode cX0_lendDays 0 = .ok (.aload_n 0, 1) := by decide +kernel
theorem dX0_lendDays_1 : decode cX0_lendDays 1 = .ok (.iload_n 1, 1) := by decide +kernel
theorem dX0_lendDays_2 : decode cX0_lendDays 2 = .ok (.iload_n 2, 1) := by decide +kernel
theorem dX0_lendDays_3 : decode cX0_lendDays 3 = .ok (.invokevirtual 108, 3) := by decide +kernel
theorem dX0_lendDays_6 : decode cX0_lendDays 6 = .ok (.istore 4, 2) := by decide +kernel
theorem dX0_lendDays_8 : decode cX0_lendDays 8 = .ok (.iload 4, 2) := by decide +kernel
theorem dX0_lendDays_10 : decode cX0_lendDays 10 = .ok (.iconst (-1), 1) := by decide +kernel
theorem dX0_lendDays_11 : decode cX0_lendDays 11 = .ok (.if_icmp .ne 52, 3) := by decide +kernel
theorem dX0_lendDays_14 : decode cX0_lendDays 14 = .ok (.aload_n 0, 1) := by decide +kernel
theorem dX0_lendDays_15 : decode cX0_lendDays 15 = .ok (.getfield 48, 3) := by decide +kernel
theorem dX0_lendDays_18 : decode cX0_lendDays 18 = .ok (.istore 4, 2) := by decide +kernel
theorem dX0_lendDays_20 : decode cX0_lendDays 20 = .ok (.aload_n 0, 1) := by decide +kernel
theorem dX0_lendDays_21 : decode cX0_lendDays 21 = .ok (.dup, 1) := by decide +kernel
theorem dX0_lendDays_22 : decode cX0_lendDays 22 = .ok (.getfield 48, 3) := by decide +kernel
theorem dX0_lendDays_25 : decode cX0_lendDays 25 = .ok (.iconst 1, 1) := by decide +kernel
theorem dX0_lendDays_26 : decode cX0_lendDays 26 = .ok (.iadd, 1) := by decide +kernel
theorem dX0_lendDays_27 : decode cX0_lendDays 27 = .ok (.putfield 48, 3) := by decide +kernel
theorem dX0_lendDays_30 : decode cX0_lendDays 30 = .ok (.aload_n 0, 1) := by decide +kernel
theorem dX0_lendDays_31 : decode cX0_lendDays 31 = .ok (.getfield 23, 3) := by decide +kernel
theorem dX0_lendDays_34 : decode cX0_lendDays 34 = .ok (.iload 4, 2) := by decide +kernel
theorem dX0_lendDays_36 : decode cX0_lendDays 36 = .ok (.iconst 0, 1) := by decide +kernel
theorem dX0_lendDays_37 : decode cX0_lendDays 37 = .ok (.iload_n 1, 1) := by decide +kernel
theorem dX0_lendDays_38 : decode cX0_lendDays 38 = .ok (.invokevirtual 36, 3) := by decide +kernel
theorem dX0_lendDays_41 : decode cX0_lendDays 41 = .ok (.aload_n 0, 1) := by decide +kernel
theorem dX0_lendDays_42 : decode cX0_lendDays 42 = .ok (.getfield 23, 3) := by decide +kernel
theorem dX0_lendDays_45 : decode cX0_lendDays 45 = .ok (.iload 4, 2) := by decide +kernel
theorem dX0_lendDays_47 : decode cX0_lendDays 47 = .ok (.iconst 1, 1) := by decide +kernel
theorem dX0_lendDays_48 : decode cX0_lendDays 48 = .ok (.iload_n 2, 1) := by decide +kernel
theorem dX0_lendDays_49 : decode cX0_lendDays 49 = .ok (.invokevirtual 36, 3) := by decide +kernel
theorem dX0_lendDays_52 : decode cX0_lendDays 52 = .ok (.aload_n 0, 1) := by decide +kernel
theorem dX0_lendDays_53 : decode cX0_lendDays 53 = .ok (.getfield 23, 3) := by decide +kernel
theorem dX0_lendDays_56 : decode cX0_lendDays 56 = .ok (.iload 4, 2) := by decide +kernel
theorem dX0_lendDays_58 : decode cX0_lendDays 58 = .ok (.iconst 2, 1) := by decide +kernel
theorem dX0_lendDays_59 : decode cX0_lendDays 59 = .ok (.iconst 0, 1) := by decide +kernel
theorem dX0_lendDays_60 : decode cX0_lendDays 60 = .ok (.invokevirtual 36, 3) := by decide +kernel
theorem dX0_lendDays_63 : decode cX0_lendDays 63 = .ok (.aload_n 0, 1) := by decide +kernel
theorem dX0_lendDays_64 : decode cX0_lendDays 64 = .ok (.iload 4, 2) := by decide +kernel
theorem dX0_lendDays_66 : decode cX0_lendDays 66 = .ok (.iload_n 3, 1) := by decide +kernel
theorem dX0_lendDays_67 : decode cX0_lendDays 67 = .ok (.invokevirtual 111, 3) := by decide +kernel
theorem dX0_lendDays_70 : decode cX0_lendDays 70 = .ok (.aload_n 0, 1) := by decide +kernel
theorem dX0_lendDays_71 : decode cX0_lendDays 71 = .ok (.iload_n 1, 1) := by decide +kernel
theorem dX0_lendDays_72 : decode cX0_lendDays 72 = .ok (.iload_n 2, 1) := by decide +kernel
theorem dX0_lendDays_73 : decode cX0_lendDays 73 = .ok (.iload_n 3, 1) := by decide +kernel
theorem dX0_lendDays_74 : decode cX0_lendDays 74 = .ok (.invokevirtual 114, 3) := by decide +kernel
theorem dX0_lendDays_77 : decode cX0_lendDays 77 = .ok (.return_, 1) := by decide +kernel
theorem dX0_payLoan_0 : decode cX0_payLoan 0 = .ok (.aload_n 0, 1) := by decide +kernel
theorem dX0_payLoan_1 : decode cX0_payLoan 1 = .ok (.getfield 23, 3) := by decide +kernel
theorem dX0_payLoan_4 : decode cX0_payLoan 4 = .ok (.iload_n 1, 1) := by decide +kernel
theorem dX0_payLoan_5 : decode cX0_payLoan 5 = .ok (.iconst 0, 1) := by decide +kernel
theorem dX0_payLoan_6 : decode cX0_payLoan 6 = .ok (.invokevirtual 51, 3) := by decide +kernel
theorem dX0_payLoan_9 : decode cX0_payLoan 9 = .ok (.istore_n 3, 1) := by decide +kernel
theorem dX0_payLoan_10 : decode cX0_payLoan 10 = .ok (.aload_n 0, 1) := by decide +kernel
theorem dX0_payLoan_11 : decode cX0_payLoan 11 = .ok (.getfield 23, 3) := by decide +kernel
theorem dX0_payLoan_14 : decode cX0_payLoan 14 = .ok (.iload_n 1, 1) := by decide +kernel
theorem dX0_payLoan_15 : decode cX0_payLoan 15 = .ok (.iconst 1, 1) := by decide +kernel
theorem dX0_payLoan_16 : decode cX0_payLoan 16 = .ok (.invokevirtual 51, 3) := by decide +kernel
theorem dX0_payLoan_19 : decode cX0_payLoan 19 = .ok (.istore 4, 2) := by decide +kernel
theorem dX0_payLoan_21 : decode cX0_payLoan 21 = .ok (.aload_n 0, 1) := by decide +kernel
theorem dX0_payLoan_22 : decode cX0_payLoan 22 = .ok (.iload_n 1, 1) := by decide +kernel
theorem dX0_payLoan_23 : decode cX0_payLoan 23 = .ok (.iload_n 2, 1) := by decide +kernel
theorem dX0_payLoan_24 : decode cX0_payLoan 24 = .ok (.ineg, 1) := by decide +kernel
theorem dX0_payLoan_25 : decode cX0_payLoan 25 = .ok (.invokevirtual 111, 3) := by decide +kernel
theorem dX0_payLoan_28 : decode cX0_payLoan 28 = .ok (.aload_n 0, 1) := by decide +kernel
theorem dX0_payLoan_29 : decode cX0_payLoan 29 = .ok (.iload 4, 2) := by decide +kernel
theorem dX0_payLoan_31 : decode cX0_payLoan 31 = .ok (.iload_n 3, 1) := by decide +kernel
theorem dX0_payLoan_32 : decode cX0_payLoan 32 = .ok (.iload_n 2, 1) := by decide +kernel
theorem dX0_payLoan_33 : decode cX0_payLoan 33 = .ok (.invokevirtual 114, 3) := by decide +kernel
theorem dX0_payLoan_36 : decode cX0_payLoan 36 = .ok (.return_, 1) := by decide +kernel
theorem dX0_changeLoan_0 : decode cX0_changeLoan 0 = .ok (.aload_n 0, 1) := by decide +kernel
theorem dX0_changeLoan_1 : decode cX0_changeLoan 1 = .ok (.getfield 23, 3) := by decide +kernel
theorem dX0_changeLoan_4 : decode cX0_changeLoan 4 = .ok (.iload_n 1, 1) := by decide +kernel
theorem dX0_changeLoan_5 : decode cX0_changeLoan 5 = .ok (.iconst 2, 1) := by decide +kernel
theorem dX0_changeLoan_6 : decode cX0_changeLoan 6 = .ok (.iload_n 2, 1) := by decide +kernel
theorem dX0_changeLoan_7 : decode cX0_changeLoan 7 = .ok (.invokevirtual 65, 3) := by decide +kernel
theorem dX0_changeLoan_10 : decode cX0_changeLoan 10 = .ok (.aload_n 0, 1) := by decide +kernel
theorem dX0_changeLoan_11 : decode cX0_changeLoan 11 = .ok (.getfield 14, 3) := by decide +kernel
theorem dX0_changeLoan_14 : decode cX0_changeLoan 14 = .ok (.aload_n 0, 1) := by decide +kernel
theorem dX0_changeLoan_15 : decode cX0_changeLoan 15 = .ok (.getfield 23, 3) := by decide +kernel
theorem dX0_changeLoan_18 : decode cX0_changeLoan 18 = .ok (.iload_n 1, 1) := by decide +kernel
theorem dX0_changeLoan_19 : decode cX0_changeLoan 19 = .ok (.iconst 0, 1) := by decide +kernel
theorem dX0_changeLoan_20 : decode cX0_changeLoan 20 = .ok (.invokevirtual 51, 3) := by decide +kernel
theorem dX0_changeLoan_23 : decode cX0_changeLoan 23 = .ok (.iconst 5, 1) := by decide +kernel
theorem dX0_changeLoan_24 : decode cX0_changeLoan 24 = .ok (.iload_n 2, 1) := by decide +kernel
theorem dX0_changeLoan_25 : decode cX0_changeLoan 25 = .ok (.invokevirtual 65, 3) := by decide +kernel
theorem dX0_changeLoan_28 : decode cX0_changeLoan 28 = .ok (.aload_n 0, 1) := by decide +kernel
theorem dX0_changeLoan_29 : decode cX0_changeLoan 29 = .ok (.getfield 14, 3) := by decide +kernel
theorem dX0_changeLoan_32 : decode cX0_changeLoan 32 = .ok (.aload_n 0, 1) := by decide +kernel
theorem dX0_changeLoan_33 : decode cX0_changeLoan 33 = .ok (.getfield 23, 3) := by decide +kernel
theorem dX0_changeLoan_36 : decode cX0_changeLoan 36 = .ok (.iload_n 1, 1) := by decide +kernel
theorem dX0_changeLoan_37 : decode cX0_changeLoan 37 = .ok (.iconst 1, 1) := by decide +kernel
theorem dX0_changeLoan_38 : decode cX0_changeLoan 38 = .ok (.invokevirtual 51, 3) := by decide +kernel
theorem dX0_changeLoan_41 : decode cX0_changeLoan 41 = .ok (.iconst 4, 1) := by decide +kernel
theorem dX0_changeLoan_42 : decode cX0_changeLoan 42 = .ok (.iload_n 2, 1) := by decide +kernel
theorem dX0_changeLoan_43 : decode cX0_changeLoan 43 = .ok (.invokevirtual 65, 3) := by decide +kernel
theorem dX0_changeLoan_46 : decode cX0_changeLoan 46 = .ok (.aload_n 0, 1) := by decide +kernel
theorem dX0_changeLoan_47 : decode cX0_changeLoan 47 = .ok (.getfield 23, 3) := by decide +kernel
theorem dX0_changeLoan_50 : decode cX0_changeLoan 50 = .ok (.iload_n 1, 1) := by decide +kernel
theorem dX0_changeLoan_51 : decode cX0_changeLoan 51 = .ok (.iconst 2, 1) := by decide +kernel
theorem dX0_changeLoan_52 : decode cX0_changeLoan 52 = .ok (.invokevirtual 51, 3) := by decide +kernel
theorem dX0_changeLoan_55 : decode cX0_changeLoan 55 = .ok (.ifCond .ne 21, 3) := by decide +kernel
theorem dX0_changeLoan_58 : decode cX0_changeLoan 58 = .ok (.aload_n 0, 1) := by decide +kernel
theorem dX0_changeLoan_59 : decode cX0_changeLoan 59 = .ok (.getfield 23, 3) := by decide +kernel
theorem dX0_changeLoan_62 : decode cX0_changeLoan 62 = .ok (.iload_n 1, 1) := by decide +kernel
theorem dX0_changeLoan_63 : decode cX0_changeLoan 63 = .ok (.invokevirtual 117, 3) := by decide +kernel
theorem dX0_changeLoan_66 : decode cX0_changeLoan 66 = .ok (.aload_n 0, 1) := by decide +kernel
theorem dX0_changeLoan_67 : decode cX0_changeLoan 67 = .ok (.dup, 1) := by decide +kernel
theorem dX0_changeLoan_68 : decode cX0_changeLoan 68 = .ok (.getfield 48, 3) := by decide +kernel
theorem dX0_changeLoan_71 : decode cX0_changeLoan 71 = .ok (.iconst 1, 1) := by decide +kernel
theorem dX0_changeLoan_72 : decode cX0_changeLoan 72 = .ok (.isub, 1) := by decide +kernel
theorem dX0_changeLoan_73 : decode cX0_changeLoan 73 = .ok (.putfield 48, 3) := by decide +kernel
theorem dX0_changeLoan_76 : decode cX0_changeLoan 76 = .ok (.return_, 1) := by decide +kernel
theorem dX0_moveDays_0 : decode cX0_moveDays 0 = .ok (.aload_n 0, 1) := by decide +kernel
theorem dX0_moveDays_1 : decode cX0_moveDays 1 = .ok (.getfield 14, 3) := by decide +kernel
theorem dX0_moveDays_4 : decode cX0_moveDays 4 = .ok (.iload_n 1, 1) := by decide +kernel
theorem dX0_moveDays_5 : decode cX0_moveDays 5 = .ok (.iconst 2, 1) := by decide +kernel
theorem dX0_moveDays_6 : decode cX0_moveDays 6 = .ok (.iload_n 3, 1) := by decide +kernel
theorem dX0_moveDays_7 : decode cX0_moveDays 7 = .ok (.ineg, 1) := by decide +kernel
theorem dX0_moveDays_8 : decode cX0_moveDays 8 = .ok (.invokevirtual 65, 3) := by decide +kernel
theorem dX0_moveDays_11 : decode cX0_moveDays 11 = .ok (.aload_n 0, 1) := by decide +kernel
theorem dX0_moveDays_12 : decode cX0_moveDays 12 = .ok (.getfield 14, 3) := by decide +kernel
theorem dX0_moveDays_15 : decode cX0_moveDays 15 = .ok (.iload_n 2, 1) := by decide +kernel
theorem dX0_moveDays_16 : decode cX0_moveDays 16 = .ok (.iconst 2, 1) := by decide +kernel
theorem dX0_moveDays_17 : decode cX0_moveDays 17 = .ok (.iload_n 3, 1) := by decide +kernel
theorem dX0_moveDays_18 : decode cX0_moveDays 18 = .ok (.invokevirtual 65, 3) := by decide +kernel
theorem dX0_moveDays_21 : decode cX0_moveDays 21 = .ok (.return_, 1) := by decide +kernel
theorem dX0_repay_0 : decode cX0_repay 0 = .ok (.iload_n 2, 1) := by decide +kernel
theorem dX0_repay_1 : decode cX0_repay 1 = .ok (.istore_n 3, 1) := by decide +kernel
theorem dX0_repay_2 : decode cX0_repay 2 = .ok (.iconst 0, 1) := by decide +kernel
theorem dX0_repay_3 : decode cX0_repay 3 = .ok (.istore 4, 2) := by decide +kernel
theorem dX0_repay_5 : decode cX0_repay 5 = .ok (.aload_n 0, 1) := by decide +kernel
theorem dX0_repay_6 : decode cX0_repay 6 = .ok (.getfield 48, 3) := by decide +kernel
theorem dX0_repay_9 : decode cX0_repay 9 = .ok (.istore 5, 2) := by decide +kernel
theorem dX0_repay_11 : decode cX0_repay 11 = .ok (.iload 5, 2) := by decide +kernel
theorem dX0_repay_13 : decode cX0_repay 13 = .ok (.ifCond .le 73, 3) := by decide +kernel
theorem dX0_repay_16 : decode cX0_repay 16 = .ok (.iload_n 3, 1) := by decide +kernel
theorem dX0_repay_17 : decode cX0_repay 17 = .ok (.ifCond .le 69, 3) := by decide +kernel
theorem dX0_repay_20 : decode cX0_repay 20 = .ok (.aload_n 0, 1) := by decide +kernel
theorem dX0_repay_21 : decode cX0_repay 21 = .ok (.getfield 23, 3) := by decide +kernel
theorem dX0_repay_24 : decode cX0_repay 24 = .ok (.iload 4, 2) := by decide +kernel
theorem dX0_repay_26 : decode cX0_repay 26 = .ok (.iconst 2, 1) := by decide +kernel
theorem dX0_repay_27 : decode cX0_repay 27 = .ok (.invokevirtual 51, 3) := by decide +kernel
theorem dX0_repay_30 : decode cX0_repay 30 = .ok (.istore 6, 2) := by decide +kernel
theorem dX0_repay_32 : decode cX0_repay 32 = .ok (.iconst 0, 1) := by decide +kernel
theorem dX0_repay_33 : decode cX0_repay 33 = .ok (.istore 7, 2) := by decide +kernel
theorem dX0_repay_35 : decode cX0_repay 35 = .ok (.aload_n 0, 1) := by decide +kernel
theorem dX0_repay_36 : decode cX0_repay 36 = .ok (.getfield 23, 3) := by decide +kernel
theorem dX0_repay_39 : decode cX0_repay 39 = .ok (.iload 4, 2) := by decide +kernel
theorem dX0_repay_41 : decode cX0_repay 41 = .ok (.iconst 1, 1) := by decide +kernel
theorem dX0_repay_42 : decode cX0_repay 42 = .ok (.invokevirtual 51, 3) := by decide +kernel
theorem dX0_repay_45 : decode cX0_repay 45 = .ok (.iload_n 1, 1) := by decide +kernel
theorem dX0_repay_46 : decode cX0_repay 46 = .ok (.if_icmp .ne 24, 3) := by decide +kernel
theorem dX0_repay_49 : decode cX0_repay 49 = .ok (.iload_n 3, 1) := by decide +kernel
theorem dX0_repay_50 : decode cX0_repay 50 = .ok (.iload 6, 2) := by decide +kernel
theorem dX0_repay_52 : decode cX0_repay 52 = .ok (.invokestatic 79, 3) := by decide +kernel
theorem dX0_repay_55 : decode cX0_repay 55 = .ok (.istore 7, 2) := by decide +kernel
theorem dX0_repay_57 : decode cX0_repay 57 = .ok (.aload_n 0, 1) := by decide +kernel
theorem dX0_repay_58 : decode cX0_repay 58 = .ok (.iload 4, 2) := by decide +kernel
theorem dX0_repay_60 : decode cX0_repay 60 = .ok (.iload 7, 2) := by decide +kernel
theorem dX0_repay_62 : decode cX0_repay 62 = .ok (.invokevirtual 91, 3) := by decide +kernel
theorem dX0_repay_65 : decode cX0_repay 65 = .ok (.iload_n 3, 1) := by decide +kernel
theorem dX0_repay_66 : decode cX0_repay 66 = .ok (.iload 7, 2) := by decide +kernel
theorem dX0_repay_68 : decode cX0_repay 68 = .ok (.isub, 1) := by decide +kernel
theorem dX0_repay_69 : decode cX0_repay 69 = .ok (.istore_n 3, 1) := by decide +kernel
theorem dX0_repay_70 : decode cX0_repay 70 = .ok (.iload 7, 2) := by decide +kernel
theorem dX0_repay_72 : decode cX0_repay 72 = .ok (.iload 6, 2) := by decide +kernel
theorem dX0_repay_74 : decode cX0_repay 74 = .ok (.if_icmp .ge 6, 3) := by decide +kernel
theorem dX0_repay_77 : decode cX0_repay 77 = .ok (.iinc 4 1, 3) := by decide +kernel
theorem dX0_repay_80 : decode cX0_repay 80 = .ok (.iinc 5 (-1), 3) := by decide +kernel
theorem dX0_repay_83 : decode cX0_repay 83 = .ok (.goto (-72), 3) := by decide +kernel
theorem dX0_repay_86 : decode cX0_repay 86 = .ok (.return_, 1) := by decide +kernel
theorem dX0_closeProject_0 : decode cX0_closeProject 0 = .ok (.aload_n 0, 1) := by decide +kernel
theorem dX0_closeProject_1 : decode cX0_closeProject 1 = .ok (.iload_n 1, 1) := by decide +kernel
theorem dX0_closeProject_2 : decode cX0_closeProject 2 = .ok (.aload_n 0, 1) := by decide +kernel
theorem dX0_closeProject_3 : decode cX0_closeProject 3 = .ok (.getfield 14, 3) := by decide +kernel
theorem dX0_closeProject_6 : decode cX0_closeProject 6 = .ok (.iload_n 1, 1) := by decide +kernel
theorem dX0_closeProject_7 : decode cX0_closeProject 7 = .ok (.iconst 2, 1) := by decide +kernel
theorem dX0_closeProject_8 : decode cX0_closeProject 8 = .ok (.invokevirtual 51, 3) := by decide +kernel
theorem dX0_closeProject_11 : decode cX0_closeProject 11 = .ok (.invokevirtual 76, 3) := by decide +kernel
theorem dX0_closeProject_14 : decode cX0_closeProject 14 = .ok (.iconst 0, 1) := by decide +kernel
theorem dX0_closeProject_15 : decode cX0_closeProject 15 = .ok (.istore_n 2, 1) := by decide +kernel
theorem dX0_closeProject_16 : decode cX0_closeProject 16 = .ok (.iconst 0, 1) := by decide +kernel
theorem dX0_closeProject_17 : decode cX0_closeProject 17 = .ok (.istore_n 3, 1) := by decide +kernel
theorem dX0_closeProject_18 : decode cX0_closeProject 18 = .ok (.aload_n 0, 1) := by decide +kernel
theorem dX0_closeProject_19 : decode cX0_closeProject 19 = .ok (.getfield 48, 3) := by decide +kernel
theorem dX0_closeProject_22 : decode cX0_closeProject 22 = .ok (.istore 4, 2) := by decide +kernel
theorem dX0_closeProject_24 : decode cX0_closeProject 24 = .ok (.iload 4, 2) := by decide +kernel
theorem dX0_closeProject_26 : decode cX0_closeProject 26 = .ok (.ifCond .le 49, 3) := by decide +kernel
theorem dX0_closeProject_29 : decode cX0_closeProject 29 = .ok (.aload_n 0, 1) := by decide +kernel
theorem dX0_closeProject_30 : decode cX0_closeProject 30 = .ok (.getfield 23, 3) := by decide +kernel
theorem dX0_closeProject_33 : decode cX0_closeProject 33 = .ok (.iload_n 3, 1) := by decide +kernel
theorem dX0_closeProject_34 : decode cX0_closeProject 34 = .ok (.iconst 0, 1) := by decide +kernel
theorem dX0_closeProject_35 : decode cX0_closeProject 35 = .ok (.invokevirtual 51, 3) := by decide +kernel
theorem dX0_closeProject_38 : decode cX0_closeProject 38 = .ok (.iload_n 1, 1) := by decide +kernel
theorem dX0_closeProject_39 : decode cX0_closeProject 39 = .ok (.if_icmp .eq 16, 3) := by decide +kernel
theorem dX0_closeProject_42 : decode cX0_closeProject 42 = .ok (.aload_n 0, 1) := by decide +kernel
theorem dX0_closeProject_43 : decode cX0_closeProject 43 = .ok (.getfield 23, 3) := by decide +kernel
theorem dX0_closeProject_46 : decode cX0_closeProject 46 = .ok (.iload_n 3, 1) := by decide +kernel
theorem dX0_closeProject_47 : decode cX0_closeProject 47 = .ok (.iconst 1, 1) := by decide +kernel
theorem dX0_closeProject_48 : decode cX0_closeProject 48 = .ok (.invokevirtual 51, 3) := by decide +kernel
theorem dX0_closeProject_51 : decode cX0_closeProject 51 = .ok (.iload_n 1, 1) := by decide +kernel
theorem dX0_closeProject_52 : decode cX0_closeProject 52 = .ok (.if_icmp .ne 14, 3) := by decide +kernel
theorem dX0_closeProject_55 : decode cX0_closeProject 55 = .ok (.iload_n 2, 1) := by decide +kernel
theorem dX0_closeProject_56 : decode cX0_closeProject 56 = .ok (.aload_n 0, 1) := by decide +kernel
theorem dX0_closeProject_57 : decode cX0_closeProject 57 = .ok (.iload_n 3, 1) := by decide +kernel
theorem dX0_closeProject_58 : decode cX0_closeProject 58 = .ok (.invokevirtual 120, 3) := by decide +kernel
theorem dX0_closeProject_61 : decode cX0_closeProject 61 = .ok (.iadd, 1) := by decide +kernel
theorem dX0_closeProject_62 : decode cX0_closeProject 62 = .ok (.istore_n 2, 1) := by decide +kernel
theorem dX0_closeProject_63 : decode cX0_closeProject 63 = .ok (.goto 6, 3) := by decide +kernel
theorem dX0_closeProject_66 : decode cX0_closeProject 66 = .ok (.iinc 3 1, 3) := by decide +kernel
theorem dX0_closeProject_69 : decode cX0_closeProject 69 = .ok (.iinc 4 (-1), 3) := by decide +kernel
theorem dX0_closeProject_72 : decode cX0_closeProject 72 = .ok (.goto (-48), 3) := by decide +kernel
theorem dX0_closeProject_75 : decode cX0_closeProject 75 = .ok (.aload_n 0, 1) := by decide +kernel
theorem dX0_closeProject_76 : decode cX0_closeProject 76 = .ok (.getfield 14, 3) := by decide +kernel
theorem dX0_closeProject_79 : decode cX0_closeProject 79 = .ok (.iload_n 1, 1) := by decide +kernel
theorem dX0_closeProject_80 : decode cX0_closeProject 80 = .ok (.bipush 9, 2) := by decide +kernel
theorem dX0_closeProject_82 : decode cX0_closeProject 82 = .ok (.iconst 0, 1) := by decide +kernel
theorem dX0_closeProject_83 : decode cX0_closeProject 83 = .ok (.invokevirtual 36, 3) := by decide +kernel
theorem dX0_closeProject_86 : decode cX0_closeProject 86 = .ok (.iload_n 2, 1) := by decide +kernel
theorem dX0_closeProject_87 : decode cX0_closeProject 87 = .ok (.ireturn, 1) := by decide +kernel
theorem dX0_writeOff_0 : decode cX0_writeOff 0 = .ok (.aload_n 0, 1) := by decide +kernel
theorem dX0_writeOff_1 : decode cX0_writeOff 1 = .ok (.getfield 23, 3) := by decide +kernel
theorem dX0_writeOff_4 : decode cX0_writeOff 4 = .ok (.iload_n 1, 1) := by decide +kernel
theorem dX0_writeOff_5 : decode cX0_writeOff 5 = .ok (.iconst 2, 1) := by decide +kernel
theorem dX0_writeOff_6 : decode cX0_writeOff 6 = .ok (.invokevirtual 51, 3) := by decide +kernel
theorem dX0_writeOff_9 : decode cX0_writeOff 9 = .ok (.istore_n 2, 1) := by decide +kernel
theorem dX0_writeOff_10 : decode cX0_writeOff 10 = .ok (.aload_n 0, 1) := by decide +kernel
theorem dX0_writeOff_11 : decode cX0_writeOff 11 = .ok (.getfield 14, 3) := by decide +kernel
theorem dX0_writeOff_14 : decode cX0_writeOff 14 = .ok (.aload_n 0, 1) := by decide +kernel
theorem dX0_writeOff_15 : decode cX0_writeOff 15 = .ok (.getfield 23, 3) := by decide +kernel
theorem dX0_writeOff_18 : decode cX0_writeOff 18 = .ok (.iload_n 1, 1) := by decide +kernel
theorem dX0_writeOff_19 : decode cX0_writeOff 19 = .ok (.iconst 0, 1) := by decide +kernel
theorem dX0_writeOff_20 : decode cX0_writeOff 20 = .ok (.invokevirtual 51, 3) := by decide +kernel
theorem dX0_writeOff_23 : decode cX0_writeOff 23 = .ok (.bipush 11, 2) := by decide +kernel
theorem dX0_writeOff_25 : decode cX0_writeOff 25 = .ok (.iload_n 2, 1) := by decide +kernel
theorem dX0_writeOff_26 : decode cX0_writeOff 26 = .ok (.invokevirtual 65, 3) := by decide +kernel
theorem dX0_writeOff_29 : decode cX0_writeOff 29 = .ok (.aload_n 0, 1) := by decide +kernel
theorem dX0_writeOff_30 : decode cX0_writeOff 30 = .ok (.getfield 14, 3) := by decide +kernel
theorem dX0_writeOff_33 : decode cX0_writeOff 33 = .ok (.aload_n 0, 1) := by decide +kernel
theorem dX0_writeOff_34 : decode cX0_writeOff 34 = .ok (.getfield 23, 3) := by decide +kernel
theorem dX0_writeOff_37 : decode cX0_writeOff 37 = .ok (.iload_n 1, 1) := by decide +kernel
theorem dX0_writeOff_38 : decode cX0_writeOff 38 = .ok (.iconst 1, 1) := by decide +kernel
theorem dX0_writeOff_39 : decode cX0_writeOff 39 = .ok (.invokevirtual 51, 3) := by decide +kernel
theorem dX0_writeOff_42 : decode cX0_writeOff 42 = .ok (.bipush 10, 2) := by decide +kernel
theorem dX0_writeOff_44 : decode cX0_writeOff 44 = .ok (.iload_n 2, 1) := by decide +kernel
theorem dX0_writeOff_45 : decode cX0_writeOff 45 = .ok (.invokevirtual 65, 3) := by decide +kernel
theorem dX0_writeOff_48 : decode cX0_writeOff 48 = .ok (.aload_n 0, 1) := by decide +kernel
theorem dX0_writeOff_49 : decode cX0_writeOff 49 = .ok (.iload_n 1, 1) := by decide +kernel
theorem dX0_writeOff_50 : decode cX0_writeOff 50 = .ok (.iload_n 2, 1) := by decide +kernel
theorem dX0_writeOff_51 : decode cX0_writeOff 51 = .ok (.ineg, 1) := by decide +kernel
theorem dX0_writeOff_52 : decode cX0_writeOff 52 = .ok (.invokevirtual 111, 3) := by decide +kernel
theorem dX0_writeOff_55 : decode cX0_writeOff 55 = .ok (.iload_n 2, 1) := by decide +kernel
theorem dX0_writeOff_56 : decode cX0_writeOff 56 = .ok (.ireturn, 1) := by decide +kernel
theorem dX0_bearableDelay_0 : decode cX0_bearableDelay 0 = .ok (.aload_n 0, 1) := by decide +kernel
theorem dX0_bearableDelay_1 : decode cX0_bearableDelay 1 = .ok (.iload_n 1, 1) := by decide +kernel
theorem dX0_bearableDelay_2 : decode cX0_bearableDelay 2 = .ok (.invokevirtual 55, 3) := by decide +kernel
theorem dX0_bearableDelay_5 : decode cX0_bearableDelay 5 = .ok (.ifCond .ne 5, 3) := by decide +kernel
theorem dX0_bearableDelay_8 : decode cX0_bearableDelay 8 = .ok (.iconst (-1), 1) := by decide +kernel
theorem dX0_bearableDelay_9 : decode cX0_bearableDelay 9 = .ok (.ireturn, 1) := by decide +kernel
theorem dX0_bearableDelay_10 : decode cX0_bearableDelay 10 = .ok (.aload_n 0, 1) := by decide +kernel
theorem dX0_bearableDelay_11 : decode cX0_bearableDelay 11 = .ok (.getfield 14, 3) := by decide +kernel
theorem dX0_bearableDelay_14 : decode cX0_bearableDelay 14 = .ok (.iload_n 1, 1) := by decide +kernel
theorem dX0_bearableDelay_15 : decode cX0_bearableDelay 15 = .ok (.iconst 2, 1) := by decide +kernel
theorem dX0_bearableDelay_16 : decode cX0_bearableDelay 16 = .ok (.invokevirtual 51, 3) := by decide +kernel
theorem dX0_bearableDelay_19 : decode cX0_bearableDelay 19 = .ok (.istore_n 2, 1) := by decide +kernel
theorem dX0_bearableDelay_20 : decode cX0_bearableDelay 20 = .ok (.iconst 0, 1) := by decide +kernel
theorem dX0_bearableDelay_21 : decode cX0_bearableDelay 21 = .ok (.istore_n 3, 1) := by decide +kernel
theorem dX0_bearableDelay_22 : decode cX0_bearableDelay 22 = .ok (.iload_n 3, 1) := by decide +kernel
theorem dX0_bearableDelay_23 : decode cX0_bearableDelay 23 = .ok (.aload_n 0, 1) := by decide +kernel
theorem dX0_bearableDelay_24 : decode cX0_bearableDelay 24 = .ok (.getfield 44, 3) := by decide +kernel
theorem dX0_bearableDelay_27 : decode cX0_bearableDelay 27 = .ok (.if_icmp .ge 55, 3) := by decide +kernel
theorem dX0_bearableDelay_30 : decode cX0_bearableDelay 30 = .ok (.iload_n 3, 1) := by decide +kernel
theorem dX0_bearableDelay_31 : decode cX0_bearableDelay 31 = .ok (.iload_n 1, 1) := by decide +kernel
theorem dX0_bearableDelay_32 : decode cX0_bearableDelay 32 = .ok (.if_icmp .eq 44, 3) := by decide +kernel
theorem dX0_bearableDelay_35 : decode cX0_bearableDelay 35 = .ok (.aload_n 0, 1) := by decide +kernel
theorem dX0_bearableDelay_36 : decode cX0_bearableDelay 36 = .ok (.iload_n 3, 1) := by decide +kernel
theorem dX0_bearableDelay_37 : decode cX0_bearableDelay 37 = .ok (.invokevirtual 55, 3) := by decide +kernel
theorem dX0_bearableDelay_40 : decode cX0_bearableDelay 40 = .ok (.ifCond .eq 36, 3) := by decide +kernel
theorem dX0_bearableDelay_43 : decode cX0_bearableDelay 43 = .ok (.aload_n 0, 1) := by decide +kernel
theorem dX0_bearableDelay_44 : decode cX0_bearableDelay 44 = .ok (.getfield 14, 3) := by decide +kernel
theorem dX0_bearableDelay_47 : decode cX0_bearableDelay 47 = .ok (.iload_n 3, 1) := by decide +kernel
theorem dX0_bearableDelay_48 : decode cX0_bearableDelay 48 = .ok (.iconst 2, 1) := by decide +kernel
theorem dX0_bearableDelay_49 : decode cX0_bearableDelay 49 = .ok (.invokevirtual 51, 3) := by decide +kernel
theorem dX0_bearableDelay_52 : decode cX0_bearableDelay 52 = .ok (.aload_n 0, 1) := by decide +kernel
theorem dX0_bearableDelay_53 : decode cX0_bearableDelay 53 = .ok (.iload_n 3, 1) := by decide +kernel
theorem dX0_bearableDelay_54 : decode cX0_bearableDelay 54 = .ok (.iload_n 1, 1) := by decide +kernel
theorem dX0_bearableDelay_55 : decode cX0_bearableDelay 55 = .ok (.invokevirtual 123, 3) := by decide +kernel
theorem dX0_bearableDelay_58 : decode cX0_bearableDelay 58 = .ok (.invokestatic 79, 3) := by decide +kernel
theorem dX0_bearableDelay_61 : decode cX0_bearableDelay 61 = .ok (.istore 4, 2) := by decide +kernel
theorem dX0_bearableDelay_63 : decode cX0_bearableDelay 63 = .ok (.iload_n 2, 1) := by decide +kernel
theorem dX0_bearableDelay_64 : decode cX0_bearableDelay 64 = .ok (.iload 4, 2) := by decide +kernel
theorem dX0_bearableDelay_66 : decode cX0_bearableDelay 66 = .ok (.aload_n 0, 1) := by decide +kernel
theorem dX0_bearableDelay_67 : decode cX0_bearableDelay 67 = .ok (.iload_n 3, 1) := by decide +kernel
theorem dX0_bearableDelay_68 : decode cX0_bearableDelay 68 = .ok (.iload 4, 2) := by decide +kernel
theorem dX0_bearableDelay_70 : decode cX0_bearableDelay 70 = .ok (.invokevirtual 59, 3) := by decide +kernel
theorem dX0_bearableDelay_73 : decode cX0_bearableDelay 73 = .ok (.iadd, 1) := by decide +kernel
theorem dX0_bearableDelay_74 : decode cX0_bearableDelay 74 = .ok (.iadd, 1) := by decide +kernel
theorem dX0_bearableDelay_75 : decode cX0_bearableDelay 75 = .ok (.istore_n 2, 1) := by decide +kernel
theorem dX0_bearableDelay_76 : decode cX0_bearableDelay 76 = .ok (.iinc 3 1, 3) := by decide +kernel
theorem dX0_bearableDelay_79 : decode cX0_bearableDelay 79 = .ok (.goto (-57), 3) := by decide +kernel
theorem dX0_bearableDelay_82 : decode cX0_bearableDelay 82 = .ok (.iload_n 2, 1) := by decide +kernel
theorem dX0_bearableDelay_83 : decode cX0_bearableDelay 83 = .ok (.ireturn, 1) := by decide +kernel
theorem dX0_weakestProject_0 : decode cX0_weakestProject 0 = .ok (.iconst (-1), 1) := by decide +kernel
theorem dX0_weakestProject_1 : decode cX0_weakestProject 1 = .ok (.istore_n 1, 1) := by decide +kernel
theorem dX0_weakestProject_2 : decode cX0_weakestProject 2 = .ok (.iconst (-1), 1) := by decide +kernel
theorem dX0_weakestProject_3 : decode cX0_weakestProject 3 = .ok (.istore_n 2, 1) := by decide +kernel
theorem dX0_weakestProject_4 : decode cX0_weakestProject 4 = .ok (.iconst 0, 1) := by decide +kernel
theorem dX0_weakestProject_5 : decode cX0_weakestProject 5 = .ok (.istore_n 3, 1) := by decide +kernel
theorem dX0_weakestProject_6 : decode cX0_weakestProject 6 = .ok (.iload_n 3, 1) := by decide +kernel
theorem dX0_weakestProject_7 : decode cX0_weakestProject 7 = .ok (.aload_n 0, 1) := by decide +kernel
theorem dX0_weakestProject_8 : decode cX0_weakestProject 8 = .ok (.getfield 44, 3) := by decide +kernel
theorem dX0_weakestProject_11 : decode cX0_weakestProject 11 = .ok (.if_icmp .ge 40, 3) := by decide +kernel
theorem dX0_weakestProject_14 : decode cX0_weakestProject 14 = .ok (.aload_n 0, 1) := by decide +kernel
theorem dX0_weakestProject_15 : decode cX0_weakestProject 15 = .ok (.iload_n 3, 1) := by decide +kernel
theorem dX0_weakestProject_16 : decode cX0_weakestProject 16 = .ok (.invokevirtual 126, 3) := by decide +kernel
theorem dX0_weakestProject_19 : decode cX0_weakestProject 19 = .ok (.istore 4, 2) := by decide +kernel
theorem dX0_weakestProject_21 : decode cX0_weakestProject 21 = .ok (.aload_n 0, 1) := by decide +kernel
theorem dX0_weakestProject_22 : decode cX0_weakestProject 22 = .ok (.iload_n 3, 1) := by decide +kernel
theorem dX0_weakestProject_23 : decode cX0_weakestProject 23 = .ok (.invokevirtual 55, 3) := by decide +kernel
theorem dX0_weakestProject_26 : decode cX0_weakestProject 26 = .ok (.ifCond .eq 19, 3) := by decide +kernel
theorem dX0_weakestProject_29 : decode cX0_weakestProject 29 = .ok (.iload_n 1, 1) := by decide +kernel
theorem dX0_weakestProject_30 : decode cX0_weakestProject 30 = .ok (.iconst (-1), 1) := by decide +kernel
theorem dX0_weakestProject_31 : decode cX0_weakestProject 31 = .ok (.if_icmp .eq 9, 3) := by decide +kernel
theorem dX0_weakestProject_34 : decode cX0_weakestProject 34 = .ok (.iload 4, 2) := by decide +kernel
theorem dX0_weakestProject_36 : decode cX0_weakestProject 36 = .ok (.iload_n 2, 1) := by decide +kernel
theorem dX0_weakestProject_37 : decode cX0_weakestProject 37 = .ok (.if_icmp .ge 8, 3) := by decide +kernel
theorem dX0_weakestProject_40 : decode cX0_weakestProject 40 = .ok (.iload_n 3, 1) := by decide +kernel
theorem dX0_weakestProject_41 : decode cX0_weakestProject 41 = .ok (.istore_n 1, 1) := by decide +kernel
theorem dX0_weakestProject_42 : decode cX0_weakestProject 42 = .ok (.iload 4, 2) := by decide +kernel
theorem dX0_weakestProject_44 : decode cX0_weakestProject 44 = .ok (.istore_n 2, 1) := by decide +kernel
theorem dX0_weakestProject_45 : decode cX0_weakestProject 45 = .ok (.iinc 3 1, 3) := by decide +kernel
theorem dX0_weakestProject_48 : decode cX0_weakestProject 48 = .ok (.goto (-42), 3) := by decide +kernel
theorem dX0_weakestProject_51 : decode cX0_weakestProject 51 = .ok (.iload_n 1, 1) := by decide +kernel
theorem dX0_weakestProject_52 : decode cX0_weakestProject 52 = .ok (.ireturn, 1) := by decide +kernel
theorem dX1_init_0 : decode cX1_init 0 = .ok (.aload_n 0, 1) := by decide +kernel
theorem dX1_init_1 : decode cX1_init 1 = .ok (.invokespecial 3, 3) := by decide +kernel
theorem dX1_init_4 : decode cX1_init 4 = .ok (.aload_n 0, 1) := by decide +kernel
theorem dX1_init_5 : decode cX1_init 5 = .ok (.bipush 6, 2) := by decide +kernel
theorem dX1_init_7 : decode cX1_init 7 = .ok (.anewarray 9, 3) := by decide +kernel
theorem dX1_init_10 : decode cX1_init 10 = .ok (.putfield 11, 3) := by decide +kernel
theorem dX1_init_13 : decode cX1_init 13 = .ok (.iconst 0, 1) := by decide +kernel
theorem dX1_init_14 : decode cX1_init 14 = .ok (.istore_n 1, 1) := by decide +kernel
theorem dX1_init_15 : decode cX1_init 15 = .ok (.iload_n 1, 1) := by decide +kernel
theorem dX1_init_16 : decode cX1_init 16 = .ok (.aload_n 0, 1) := by decide +kernel
theorem dX1_init_17 : decode cX1_init 17 = .ok (.getfield 11, 3) := by decide +kernel
theorem dX1_init_20 : decode cX1_init 20 = .ok (.arraylength, 1) := by decide +kernel
theorem dX1_init_21 : decode cX1_init 21 = .ok (.if_icmp .ge 22, 3) := by decide +kernel
theorem dX1_init_24 : decode cX1_init 24 = .ok (.aload_n 0, 1) := by decide +kernel
theorem dX1_init_25 : decode cX1_init 25 = .ok (.getfield 11, 3) := by decide +kernel
theorem dX1_init_28 : decode cX1_init 28 = .ok (.iload_n 1, 1) := by decide +kernel
theorem dX1_init_29 : decode cX1_init 29 = .ok (.new 9, 3) := by decide +kernel
theorem dX1_init_32 : decode cX1_init 32 = .ok (.dup, 1) := by decide +kernel
theorem dX1_init_33 : decode cX1_init 33 = .ok (.invokespecial 17, 3) := by decide +kernel
theorem dX1_init_36 : decode cX1_init 36 = .ok (.aastore, 1) := by decide +kernel
theorem dX1_init_37 : decode cX1_init 37 = .ok (.iinc 1 1, 3) := by decide +kernel
theorem dX1_init_40 : decode cX1_init 40 = .ok (.goto (-25), 3) := by decide +kernel
theorem dX1_init_43 : decode cX1_init 43 = .ok (.return_, 1) := by decide +kernel
theorem dX1_size_0 : decode cX1_size 0 = .ok (.aload_n 0, 1) := by decide +kernel
theorem dX1_size_1 : decode cX1_size 1 = .ok (.getfield 18, 3) := by decide +kernel
theorem dX1_size_4 : decode cX1_size 4 = .ok (.ireturn, 1) := by decide +kernel
theorem dX1_keep_0 : decode cX1_keep 0 = .ok (.aload_n 0, 1) := by decide +kernel
theorem dX1_keep_1 : decode cX1_keep 1 = .ok (.aload_n 0, 1) := by decide +kernel
theorem dX1_keep_2 : decode cX1_keep 2 = .ok (.getfield 22, 3) := by decide +kernel
theorem dX1_keep_5 : decode cX1_keep 5 = .ok (.invokevirtual 25, 3) := by decide +kernel
theorem dX1_keep_8 : decode cX1_keep 8 = .ok (.astore_n 2, 1) := by decide +kernel
theorem dX1_keep_9 : decode cX1_keep 9 = .ok (.aload_n 2, 1) := by decide +kernel
theorem dX1_keep_10 : decode cX1_keep 10 = .ok (.ifnull 8, 3) := by decide +kernel
theorem dX1_keep_13 : decode cX1_keep 13 = .ok (.aload_n 2, 1) := by decide +kernel
theorem dX1_keep_14 : decode cX1_keep 14 = .ok (.aload_n 1, 1) := by decide +kernel
theorem dX1_keep_15 : decode cX1_keep 15 = .ok (.invokevirtual 29, 3) := by decide +kernel
theorem dX1_keep_18 : decode cX1_keep 18 = .ok (.aload_n 0, 1) := by decide +kernel
theorem dX1_keep_19 : decode cX1_keep 19 = .ok (.aload_n 0, 1) := by decide +kernel
theorem dX1_keep_20 : decode cX1_keep 20 = .ok (.getfield 22, 3) := by decide +kernel
theorem dX1_keep_23 : decode cX1_keep 23 = .ok (.iconst 1, 1) := by decide +kernel
theorem dX1_keep_24 : decode cX1_keep 24 = .ok (.iadd, 1) := by decide +kernel
theorem dX1_keep_25 : decode cX1_keep 25 = .ok (.bipush 6, 2) := by decide +kernel
theorem dX1_keep_27 : decode cX1_keep 27 = .ok (.irem, 1) := by decide +kernel
theorem dX1_keep_28 : decode cX1_keep 28 = .ok (.putfield 22, 3) := by decide +kernel
theorem dX1_keep_31 : decode cX1_keep 31 = .ok (.aload_n 0, 1) := by decide +kernel
theorem dX1_keep_32 : decode cX1_keep 32 = .ok (.aload_n 0, 1) := by decide +kernel
theorem dX1_keep_33 : decode cX1_keep 33 = .ok (.getfield 18, 3) := by decide +kernel
theorem dX1_keep_36 : decode cX1_keep 36 = .ok (.iconst 1, 1) := by decide +kernel
theorem dX1_keep_37 : decode cX1_keep 37 = .ok (.iadd, 1) := by decide +kernel
theorem dX1_keep_38 : decode cX1_keep 38 = .ok (.bipush 6, 2) := by decide +kernel
theorem dX1_keep_40 : decode cX1_keep 40 = .ok (.invokestatic 33, 3) := by decide +kernel
theorem dX1_keep_43 : decode cX1_keep 43 = .ok (.putfield 18, 3) := by decide +kernel
theorem dX1_keep_46 : decode cX1_keep 46 = .ok (.return_, 1) := by decide +kernel
theorem dX1_giveBack_0 : decode cX1_giveBack 0 = .ok (.aload_n 0, 1) := by decide +kernel
theorem dX1_giveBack_1 : decode cX1_giveBack 1 = .ok (.aload_n 0, 1) := by decide +kernel
theorem dX1_giveBack_2 : decode cX1_giveBack 2 = .ok (.getfield 22, 3) := by decide +kernel
theorem dX1_giveBack_5 : decode cX1_giveBack 5 = .ok (.bipush 6, 2) := by decide +kernel
theorem dX1_giveBack_7 : decode cX1_giveBack 7 = .ok (.iadd, 1) := by decide +kernel
theorem dX1_giveBack_8 : decode cX1_giveBack 8 = .ok (.iconst 1, 1) := by decide +kernel
theorem dX1_giveBack_9 : decode cX1_giveBack 9 = .ok (.isub, 1) := by decide +kernel
theorem dX1_giveBack_10 : decode cX1_giveBack 10 = .ok (.bipush 6, 2) := by decide +kernel
theorem dX1_giveBack_12 : decode cX1_giveBack 12 = .ok (.irem, 1) := by decide +kernel
theorem dX1_giveBack_13 : decode cX1_giveBack 13 = .ok (.putfield 22, 3) := by decide +kernel
theorem dX1_giveBack_16 : decode cX1_giveBack 16 = .ok (.aload_n 0, 1) := by decide +kernel
theorem dX1_giveBack_17 : decode cX1_giveBack 17 = .ok (.aload_n 0, 1) := by decide +kernel
theorem dX1_giveBack_18 : decode cX1_giveBack 18 = .ok (.getfield 18, 3) := by decide +kernel
theorem dX1_giveBack_21 : decode cX1_giveBack 21 = .ok (.iconst 1, 1) := by decide +kernel
theorem dX1_giveBack_22 : decode cX1_giveBack 22 = .ok (.isub, 1) := by decide +kernel
theorem dX1_giveBack_23 : decode cX1_giveBack 23 = .ok (.iconst 0, 1) := by decide +kernel
theorem dX1_giveBack_24 : decode cX1_giveBack 24 = .ok (.invokestatic 39, 3) := by decide +kernel
theorem dX1_giveBack_27 : decode cX1_giveBack 27 = .ok (.putfield 18, 3) := by decide +kernel
theorem dX1_giveBack_30 : decode cX1_giveBack 30 = .ok (.aload_n 0, 1) := by decide +kernel
theorem dX1_giveBack_31 : decode cX1_giveBack 31 = .ok (.aload_n 0, 1) := by decide +kernel
theorem dX1_giveBack_32 : decode cX1_giveBack 32 = .ok (.getfield 22, 3) := by decide +kernel
theorem dX1_giveBack_35 : decode cX1_giveBack 35 = .ok (.invokevirtual 25, 3) := by decide +kernel
theorem dX1_giveBack_38 : decode cX1_giveBack 38 = .ok (.astore_n 2, 1) := by decide +kernel
theorem dX1_giveBack_39 : decode cX1_giveBack 39 = .ok (.aload_n 2, 1) := by decide +kernel
theorem dX1_giveBack_40 : decode cX1_giveBack 40 = .ok (.ifnull 8, 3) := by decide +kernel
theorem dX1_giveBack_43 : decode cX1_giveBack 43 = .ok (.aload_n 1, 1) := by decide +kernel
theorem dX1_giveBack_44 : decode cX1_giveBack 44 = .ok (.aload_n 2, 1) := by decide +kernel
theorem dX1_giveBack_45 : decode cX1_giveBack 45 = .ok (.invokevirtual 29, 3) := by decide +kernel
theorem dX1_giveBack_48 : decode cX1_giveBack 48 = .ok (.return_, 1) := by decide +kernel
theorem dX1_slotAt_0 : decode cX1_slotAt 0 = .ok (.iload_n 1, 1) := by decide +kernel
theorem dX1_slotAt_1 : decode cX1_slotAt 1 = .ok (.ifCond .lt 21, 3) := by decide +kernel
theorem dX1_slotAt_4 : decode cX1_slotAt 4 = .ok (.iload_n 1, 1) := by decide +kernel
theorem dX1_slotAt_5 : decode cX1_slotAt 5 = .ok (.aload_n 0, 1) := by decide +kernel
theorem dX1_slotAt_6 : decode cX1_slotAt 6 = .ok (.getfield 11, 3) := by decide +kernel
theorem dX1_slotAt_9 : decode cX1_slotAt 9 = .ok (.arraylength, 1) := by decide +kernel
theorem dX1_slotAt_10 : decode cX1_slotAt 10 = .ok (.if_icmp .ge 12, 3) := by decide +kernel
theorem dX1_slotAt_13 : decode cX1_slotAt 13 = .ok (.aload_n 0, 1) := by decide +kernel
theorem dX1_slotAt_14 : decode cX1_slotAt 14 = .ok (.getfield 11, 3) := by decide +kernel
theorem dX1_slotAt_17 : decode cX1_slotAt 17 = .ok (.iload_n 1, 1) := by decide +kernel
theorem dX1_slotAt_18 : decode cX1_slotAt 18 = .ok (.aaload, 1) := by decide +kernel
theorem dX1_slotAt_19 : decode cX1_slotAt 19 = .ok (.goto 4, 3) := by decide +kernel
theorem dX1_slotAt_22 : decode cX1_slotAt 22 = .ok (.aconst_null, 1) := by decide +kernel
theorem dX1_slotAt_23 : decode cX1_slotAt 23 = .ok (.areturn, 1) := by decide +kernel
theorem dX2_init_0 : decode cX2_init 0 = .ok (.aload_n 0, 1) := by decide +kernel
theorem dX2_init_1 : decode cX2_init 1 = .ok (.invokespecial 3, 3) := by decide +kernel
theorem dX2_init_4 : decode cX2_init 4 = .ok (.return_, 1) := by decide +kernel
theorem dX2_isDigit_0 : decode cX2_isDigit 0 = .ok (.iload_n 0, 1) := by decide +kernel
theorem dX2_isDigit_1 : decode cX2_isDigit 1 = .ok (.bipush 48, 2) := by decide +kernel
theorem dX2_isDigit_3 : decode cX2_isDigit 3 = .ok (.if_icmp .lt 13, 3) := by decide +kernel
theorem dX2_isDigit_6 : decode cX2_isDigit 6 = .ok (.iload_n 0, 1) := by decide +kernel
theorem dX2_isDigit_7 : decode cX2_isDigit 7 = .ok (.bipush 57, 2) := by decide +kernel
theorem dX2_isDigit_9 : decode cX2_isDigit 9 = .ok (.if_icmp .gt 7, 3) := by decide +kernel
theorem dX2_isDigit_12 : decode cX2_isDigit 12 = .ok (.iconst 1, 1) := by decide +kernel
theorem dX2_isDigit_13 : decode cX2_isDigit 13 = .ok (.goto 4, 3) := by decide +kernel
theorem dX2_isDigit_16 : decode cX2_isDigit 16 = .ok (.iconst 0, 1) := by decide +kernel
theorem dX2_isDigit_17 : decode cX2_isDigit 17 = .ok (.ireturn, 1) := by decide +kernel
theorem dX2_start_0 : decode cX2_start 0 = .ok (.aload_n 0, 1) := by decide +kernel
theorem dX2_start_1 : decode cX2_start 1 = .ok (.iconst 0, 1) := by decide +kernel
theorem dX2_start_2 : decode cX2_start 2 = .ok (.invokevirtual 11, 3) := by decide +kernel
theorem dX2_start_5 : decode cX2_start 5 = .ok (.return_, 1) := by decide +kernel
theorem dX2_takes_0 : decode cX2_takes 0 = .ok (.iload_n 1, 1) := by decide +kernel
theorem dX2_takes_1 : decode cX2_takes 1 = .ok (.invokestatic 15, 3) := by decide +kernel
theorem dX2_takes_4 : decode cX2_takes 4 = .ok (.ifCond .eq 14, 3) := by decide +kernel
theorem dX2_takes_7 : decode cX2_takes 7 = .ok (.aload_n 0, 1) := by decide +kernel
theorem dX2_takes_8 : decode cX2_takes 8 = .ok (.iload_n 1, 1) := by decide +kernel
theorem dX2_takes_9 : decode cX2_takes 9 = .ok (.bipush 48, 2) := by decide +kernel
theorem dX2_takes_11 : decode cX2_takes 11 = .ok (.isub, 1) := by decide +kernel
theorem dX2_takes_12 : decode cX2_takes 12 = .ok (.invokevirtual 19, 3) := by decide +kernel
theorem dX2_takes_15 : decode cX2_takes 15 = .ok (.goto 24, 3) := by decide +kernel
theorem dX2_takes_18 : decode cX2_takes 18 = .ok (.aload_n 0, 1) := by decide +kernel
theorem dX2_takes_19 : decode cX2_takes 19 = .ok (.getfield 22, 3) := by decide +kernel
theorem dX2_takes_22 : decode cX2_takes 22 = .ok (.iconst (-1), 1) := by decide +kernel
theorem dX2_takes_23 : decode cX2_takes 23 = .ok (.if_icmp .eq 15, 3) := by decide +kernel
theorem dX2_takes_26 : decode cX2_takes 26 = .ok (.aload_n 0, 1) := by decide +kernel
theorem dX2_takes_27 : decode cX2_takes 27 = .ok (.iload_n 1, 1) := by decide +kernel
theorem dX2_takes_28 : decode cX2_takes 28 = .ok (.invokevirtual 26, 3) := by decide +kernel
theorem dX2_takes_31 : decode cX2_takes 31 = .ok (.ifCond .eq 7, 3) := by decide +kernel
theorem dX2_takes_34 : decode cX2_takes 34 = .ok (.iconst 1, 1) := by decide +kernel
theorem dX2_takes_35 : decode cX2_takes 35 = .ok (.goto 4, 3) := by decide +kernel
theorem dX2_takes_38 : decode cX2_takes 38 = .ok (.iconst 0, 1) := by decide +kernel
theorem dX2_takes_39 : decode cX2_takes 39 = .ok (.ireturn, 1) := by decide +kernel
theorem dX2_isAtEndOfPlan_0 : decode cX2_isAtEndOfPlan 0 = .ok (.aload_n 0, 1) := by decide +kernel
theorem dX2_isAtEndOfPlan_1 : decode cX2_isAtEndOfPlan 1 = .ok (.getfield 29, 3) := by decide +kernel
theorem dX2_isAtEndOfPlan_4 : decode cX2_isAtEndOfPlan 4 = .ok (.iconst 2, 1) := by decide +kernel
theorem dX2_isAtEndOfPlan_5 : decode cX2_isAtEndOfPlan 5 = .ok (.if_icmp .ne 15, 3) := by decide +kernel
theorem dX2_isAtEndOfPlan_8 : decode cX2_isAtEndOfPlan 8 = .ok (.aload_n 0, 1) := by decide +kernel
theorem dX2_isAtEndOfPlan_9 : decode cX2_isAtEndOfPlan 9 = .ok (.getfield 22, 3) := by decide +kernel
theorem dX2_isAtEndOfPlan_12 : decode cX2_isAtEndOfPlan 12 = .ok (.iconst (-1), 1) := by decide +kernel
theorem dX2_isAtEndOfPlan_13 : decode cX2_isAtEndOfPlan 13 = .ok (.if_icmp .eq 7, 3) := by decide +kernel
theorem dX2_isAtEndOfPlan_16 : decode cX2_isAtEndOfPlan 16 = .ok (.iconst 1, 1) := by decide +kernel
theorem dX2_isAtEndOfPlan_17 : decode cX2_isAtEndOfPlan 17 = .ok (.goto 4, 3) := by decide +kernel
theorem dX2_isAtEndOfPlan_20 : decode cX2_isAtEndOfPlan 20 = .ok (.iconst 0, 1) := by decide +kernel
theorem dX2_isAtEndOfPlan_21 : decode cX2_isAtEndOfPlan 21 = .ok (.ireturn, 1) := by decide +kernel
theorem dX2_begin_0 : decode cX2_begin 0 = .ok (.aload_n 0, 1) := by decide +kernel
theorem dX2_begin_1 : decode cX2_begin 1 = .ok (.iload_n 1, 1) := by decide +kernel
theorem dX2_begin_2 : decode cX2_begin 2 = .ok (.putfield 29, 3) := by decide +kernel
theorem dX2_begin_5 : decode cX2_begin 5 = .ok (.aload_n 0, 1) := by decide +kernel
theorem dX2_begin_6 : decode cX2_begin 6 = .ok (.iconst (-1), 1) := by decide +kernel
theorem dX2_begin_7 : decode cX2_begin 7 = .ok (.putfield 22, 3) := by decide +kernel
theorem dX2_begin_10 : decode cX2_begin 10 = .ok (.return_, 1) := by decide +kernel
theorem dX2_takesDigit_0 : decode cX2_takesDigit 0 = .ok (.aload_n 0, 1) := by decide +kernel
theorem dX2_takesDigit_1 : decode cX2_takesDigit 1 = .ok (.getfield 22, 3) := by decide +kernel
theorem dX2_takesDigit_4 : decode cX2_takesDigit 4 = .ok (.iconst (-1), 1) := by decide +kernel
theorem dX2_takesDigit_5 : decode cX2_takesDigit 5 = .ok (.if_icmp .ne 7, 3) := by decide +kernel
theorem dX2_takesDigit_8 : decode cX2_takesDigit 8 = .ok (.iload_n 1, 1) := by decide +kernel
theorem dX2_takesDigit_9 : decode cX2_takesDigit 9 = .ok (.goto 12, 3) := by decide +kernel
theorem dX2_takesDigit_12 : decode cX2_takesDigit 12 = .ok (.aload_n 0, 1) := by decide +kernel
theorem dX2_takesDigit_13 : decode cX2_takesDigit 13 = .ok (.getfield 22, 3) := by decide +kernel
theorem dX2_takesDigit_16 : decode cX2_takesDigit 16 = .ok (.bipush 10, 2) := by decide +kernel
theorem dX2_takesDigit_18 : decode cX2_takesDigit 18 = .ok (.imul, 1) := by decide +kernel
theorem dX2_takesDigit_19 : decode cX2_takesDigit 19 = .ok (.iload_n 1, 1) := by decide +kernel
theorem dX2_takesDigit_20 : decode cX2_takesDigit 20 = .ok (.iadd, 1) := by decide +kernel
theorem dX2_takesDigit_21 : decode cX2_takesDigit 21 = .ok (.istore_n 2, 1) := by decide +kernel
theorem dX2_takesDigit_22 : decode cX2_takesDigit 22 = .ok (.aload_n 0, 1) := by decide +kernel
theorem dX2_takesDigit_23 : decode cX2_takesDigit 23 = .ok (.getfield 22, 3) := by decide +kernel
theorem dX2_takesDigit_26 : decode cX2_takesDigit 26 = .ok (.ifCond .eq 19, 3) := by decide +kernel
theorem dX2_takesDigit_29 : decode cX2_takesDigit 29 = .ok (.iload_n 2, 1) := by decide +kernel
theorem dX2_takesDigit_30 : decode cX2_takesDigit 30 = .ok (.aload_n 0, 1) := by decide +kernel
theorem dX2_takesDigit_31 : decode cX2_takesDigit 31 = .ok (.invokevirtual 32, 3) := by decide +kernel
theorem dX2_takesDigit_34 : decode cX2_takesDigit 34 = .ok (.if_icmp .lt 11, 3) := by decide +kernel
theorem dX2_takesDigit_37 : decode cX2_takesDigit 37 = .ok (.iload_n 2, 1) := by decide +kernel
theorem dX2_takesDigit_38 : decode cX2_takesDigit 38 = .ok (.aload_n 0, 1) := by decide +kernel
theorem dX2_takesDigit_39 : decode cX2_takesDigit 39 = .ok (.invokevirtual 36, 3) := by decide +kernel
theorem dX2_takesDigit_42 : decode cX2_takesDigit 42 = .ok (.if_icmp .le 5, 3) := by decide +kernel
theorem dX2_takesDigit_45 : decode cX2_takesDigit 45 = .ok (.iconst 0, 1) := by decide +kernel
theorem dX2_takesDigit_46 : decode cX2_takesDigit 46 = .ok (.ireturn, 1) := by decide +kernel
theorem dX2_takesDigit_47 : decode cX2_takesDigit 47 = .ok (.aload_n 0, 1) := by decide +kernel
theorem dX2_takesDigit_48 : decode cX2_takesDigit 48 = .ok (.iload_n 2, 1) := by decide +kernel
theorem dX2_takesDigit_49 : decode cX2_takesDigit 49 = .ok (.putfield 22, 3) := by decide +kernel
theorem dX2_takesDigit_52 : decode cX2_takesDigit 52 = .ok (.iconst 1, 1) := by decide +kernel
theorem dX2_takesDigit_53 : decode cX2_takesDigit 53 = .ok (.ireturn, 1) := by decide +kernel
theorem dX2_leastNumber_0 : decode cX2_leastNumber 0 = .ok (.aload_n 0, 1) := by decide +kernel
theorem dX2_leastNumber_1 : decode cX2_leastNumber 1 = .ok (.getfield 29, 3) := by decide +kernel
theorem dX2_leastNumber_4 : decode cX2_leastNumber 4 = .ok (.iconst 1, 1) := by decide +kernel
theorem dX2_leastNumber_5 : decode cX2_leastNumber 5 = .ok (.if_icmp .ne 7, 3) := by decide +kernel
theorem dX2_leastNumber_8 : decode cX2_leastNumber 8 = .ok (.iconst 0, 1) := by decide +kernel
theorem dX2_leastNumber_9 : decode cX2_leastNumber 9 = .ok (.goto 4, 3) := by decide +kernel
theorem dX2_leastNumber_12 : decode cX2_leastNumber 12 = .ok (.iconst 1, 1) := by decide +kernel
theorem dX2_leastNumber_13 : decode cX2_leastNumber 13 = .ok (.ireturn, 1) := by decide +kernel
theorem dX2_greatestNumber_0 : decode cX2_greatestNumber 0 = .ok (.aload_n 0, 1) := by decide +kernel
theorem dX2_greatestNumber_1 : decode cX2_greatestNumber 1 = .ok (.getfield 29, 3) := by decide +kernel
theorem dX2_greatestNumber_4 : decode cX2_greatestNumber 4 = .ok (.ifCond .ne 6, 3) := by decide +kernel
theorem dX2_greatestNumber_7 : decode cX2_greatestNumber 7 = .ok (.bipush 9, 2) := by decide +kernel
theorem dX2_greatestNumber_9 : decode cX2_greatestNumber 9 = .ok (.ireturn, 1) := by decide +kernel
theorem dX2_greatestNumber_10 : decode cX2_greatestNumber 10 = .ok (.aload_n 0, 1) := by decide +kernel
theorem dX2_greatestNumber_11 : decode cX2_greatestNumber 11 = .ok (.getfield 29, 3) := by decide +kernel
theorem dX2_greatestNumber_14 : decode cX2_greatestNumber 14 = .ok (.iconst 1, 1) := by decide +kernel
theorem dX2_greatestNumber_15 : decode cX2_greatestNumber 15 = .ok (.if_icmp .ne 8, 3) := by decide +kernel
theorem dX2_greatestNumber_18 : decode cX2_greatestNumber 18 = .ok (.bipush 99, 2) := by decide +kernel
theorem dX2_greatestNumber_20 : decode cX2_greatestNumber 20 = .ok (.goto 5, 3) := by decide +kernel
theorem dX2_greatestNumber_23 : decode cX2_greatestNumber 23 = .ok (.bipush 60, 2) := by decide +kernel
theorem dX2_greatestNumber_25 : decode cX2_greatestNumber 25 = .ok (.ireturn, 1) := by decide +kernel
theorem dX2_takesSign_0 : decode cX2_takesSign 0 = .ok (.aload_n 0, 1) := by decide +kernel
theorem dX2_takesSign_1 : decode cX2_takesSign 1 = .ok (.getfield 29, 3) := by decide +kernel
theorem dX2_takesSign_4 : decode cX2_takesSign 4 = .ok (.ifCond .ne 16, 3) := by decide +kernel
theorem dX2_takesSign_7 : decode cX2_takesSign 7 = .ok (.iload_n 1, 1) := by decide +kernel
theorem dX2_takesSign_8 : decode cX2_takesSign 8 = .ok (.bipush 58, 2) := by decide +kernel
theorem dX2_takesSign_10 : decode cX2_takesSign 10 = .ok (.if_icmp .ne 10, 3) := by decide +kernel
theorem dX2_takesSign_13 : decode cX2_takesSign 13 = .ok (.aload_n 0, 1) := by decide +kernel
theorem dX2_takesSign_14 : decode cX2_takesSign 14 = .ok (.iconst 1, 1) := by decide +kernel
theorem dX2_takesSign_15 : decode cX2_takesSign 15 = .ok (.invokevirtual 11, 3) := by decide +kernel
theorem dX2_takesSign_18 : decode cX2_takesSign 18 = .ok (.iconst 1, 1) := by decide +kernel
theorem dX2_takesSign_19 : decode cX2_takesSign 19 = .ok (.ireturn, 1) := by decide +kernel
theorem dX2_takesSign_20 : decode cX2_takesSign 20 = .ok (.aload_n 0, 1) := by decide +kernel
theorem dX2_takesSign_21 : decode cX2_takesSign 21 = .ok (.getfield 29, 3) := by decide +kernel
theorem dX2_takesSign_24 : decode cX2_takesSign 24 = .ok (.iconst 1, 1) := by decide +kernel
theorem dX2_takesSign_25 : decode cX2_takesSign 25 = .ok (.if_icmp .ne 21, 3) := by decide +kernel
theorem dX2_takesSign_28 : decode cX2_takesSign 28 = .ok (.iload_n 1, 1) := by decide +kernel
theorem dX2_takesSign_29 : decode cX2_takesSign 29 = .ok (.bipush 58, 2) := by decide +kernel
theorem dX2_takesSign_31 : decode cX2_takesSign 31 = .ok (.if_icmp .ne 15, 3) := by decide +kernel
theorem dX2_takesSign_34 : decode cX2_takesSign 34 = .ok (.aload_n 0, 1) := by decide +kernel
theorem dX2_takesSign_35 : decode cX2_takesSign 35 = .ok (.iconst 2, 1) := by decide +kernel
theorem dX2_takesSign_36 : decode cX2_takesSign 36 = .ok (.invokevirtual 11, 3) := by decide +kernel
theorem dX2_takesSign_39 : decode cX2_takesSign 39 = .ok (.aload_n 0, 1) := by decide +kernel
theorem dX2_takesSign_40 : decode cX2_takesSign 40 = .ok (.iconst 1, 1) := by decide +kernel
theorem dX2_takesSign_41 : decode cX2_takesSign 41 = .ok (.putfield 39, 3) := by decide +kernel
theorem dX2_takesSign_44 : decode cX2_takesSign 44 = .ok (.iconst 1, 1) := by decide +kernel
theorem dX2_takesSign_45 : decode cX2_takesSign 45 = .ok (.ireturn, 1) := by decide +kernel
theorem dX2_takesSign_46 : decode cX2_takesSign 46 = .ok (.aload_n 0, 1) := by decide +kernel
theorem dX2_takesSign_47 : decode cX2_takesSign 47 = .ok (.getfield 29, 3) := by decide +kernel
theorem dX2_takesSign_50 : decode cX2_takesSign 50 = .ok (.iconst 2, 1) := by decide +kernel
theorem dX2_takesSign_51 : decode cX2_takesSign 51 = .ok (.if_icmp .ne 35, 3) := by decide +kernel
theorem dX2_takesSign_54 : decode cX2_takesSign 54 = .ok (.iload_n 1, 1) := by decide +kernel
theorem dX2_takesSign_55 : decode cX2_takesSign 55 = .ok (.bipush 43, 2) := by decide +kernel
theorem dX2_takesSign_57 : decode cX2_takesSign 57 = .ok (.if_icmp .ne 29, 3) := by decide +kernel
theorem dX2_takesSign_60 : decode cX2_takesSign 60 = .ok (.aload_n 0, 1) := by decide +kernel
theorem dX2_takesSign_61 : decode cX2_takesSign 61 = .ok (.getfield 39, 3) := by decide +kernel
theorem dX2_takesSign_64 : decode cX2_takesSign 64 = .ok (.bipush 8, 2) := by decide +kernel
theorem dX2_takesSign_66 : decode cX2_takesSign 66 = .ok (.if_icmp .ge 20, 3) := by decide +kernel
theorem dX2_takesSign_69 : decode cX2_takesSign 69 = .ok (.aload_n 0, 1) := by decide +kernel
theorem dX2_takesSign_70 : decode cX2_takesSign 70 = .ok (.iconst 2, 1) := by decide +kernel
theorem dX2_takesSign_71 : decode cX2_takesSign 71 = .ok (.invokevirtual 11, 3) := by decide +kernel
theorem dX2_takesSign_74 : decode cX2_takesSign 74 = .ok (.aload_n 0, 1) := by decide +kernel
theorem dX2_takesSign_75 : decode cX2_takesSign 75 = .ok (.dup, 1) := by decide +kernel
theorem dX2_takesSign_76 : decode cX2_takesSign 76 = .ok (.getfield 39, 3) := by decide +kernel
theorem dX2_takesSign_79 : decode cX2_takesSign 79 = .ok (.iconst 1, 1) := by decide +kernel
theorem dX2_takesSign_80 : decode cX2_takesSign 80 = .ok (.iadd, 1) := by decide +kernel
theorem dX2_takesSign_81 : decode cX2_takesSign 81 = .ok (.putfield 39, 3) := by decide +kernel
theorem dX2_takesSign_84 : decode cX2_takesSign 84 = .ok (.iconst 1, 1) := by decide +kernel
theorem dX2_takesSign_85 : decode cX2_takesSign 85 = .ok (.ireturn, 1) := by decide +kernel
theorem dX2_takesSign_86 : decode cX2_takesSign 86 = .ok (.aload_n 0, 1) := by decide +kernel
theorem dX2_takesSign_87 : decode cX2_takesSign 87 = .ok (.getfield 29, 3) := by decide +kernel
theorem dX2_takesSign_90 : decode cX2_takesSign 90 = .ok (.iconst 2, 1) := by decide +kernel
theorem dX2_takesSign_91 : decode cX2_takesSign 91 = .ok (.if_icmp .ne 16, 3) := by decide +kernel
theorem dX2_takesSign_94 : decode cX2_takesSign 94 = .ok (.iload_n 1, 1) := by decide +kernel
theorem dX2_takesSign_95 : decode cX2_takesSign 95 = .ok (.bipush 59, 2) := by decide +kernel
theorem dX2_takesSign_97 : decode cX2_takesSign 97 = .ok (.if_icmp .ne 10, 3) := by decide +kernel
theorem dX2_takesSign_100 : decode cX2_takesSign 100 = .ok (.aload_n 0, 1) := by decide +kernel
theorem dX2_takesSign_101 : decode cX2_takesSign 101 = .ok (.iconst 0, 1) := by decide +kernel
theorem dX2_takesSign_102 : decode cX2_takesSign 102 = .ok (.invokevirtual 11, 3) := by decide +kernel
theorem dX2_takesSign_105 : decode cX2_takesSign 105 = .ok (.iconst 1, 1) := by decide +kernel
theorem dX2_takesSign_106 : decode cX2_takesSign 106 = .ok (.ireturn, 1) := by decide +kernel
theorem dX2_takesSign_107 : decode cX2_takesSign 107 = .ok (.iconst 0, 1) := by decide +kernel
theorem dX2_takesSign_108 : decode cX2_takesSign 108 = .ok (.ireturn, 1) := by decide +kernel
theorem dX3_init_0 : decode cX3_init 0 = .ok (.aload_n 0, 1) := by decide +kernel
theorem dX3_init_1 : decode cX3_init 1 = .ok (.invokespecial 1, 3) := by decide +kernel
theorem dX3_init_4 : decode cX3_init 4 = .ok (.aload_n 0, 1) := by decide +kernel
theorem dX3_init_5 : decode cX3_init 5 = .ok (.iload_n 2, 1) := by decide +kernel
theorem dX3_init_6 : decode cX3_init 6 = .ok (.putfield 7, 3) := by decide +kernel
theorem dX3_init_9 : decode cX3_init 9 = .ok (.aload_n 0, 1) := by decide +kernel
theorem dX3_init_10 : decode cX3_init 10 = .ok (.iconst 0, 1) := by decide +kernel
theorem dX3_init_11 : decode cX3_init 11 = .ok (.iload_n 1, 1) := by decide +kernel
theorem dX3_init_12 : decode cX3_init 12 = .ok (.iload_n 2, 1) := by decide +kernel
theorem dX3_init_13 : decode cX3_init 13 = .ok (.imul, 1) := by decide +kernel
theorem dX3_init_14 : decode cX3_init 14 = .ok (.invokestatic 13, 3) := by decide +kernel
theorem dX3_init_17 : decode cX3_init 17 = .ok (.newarray .int, 2) := by decide +kernel
theorem dX3_init_19 : decode cX3_init 19 = .ok (.putfield 19, 3) := by decide +kernel
theorem dX3_init_22 : decode cX3_init 22 = .ok (.return_, 1) := by decide +kernel
theorem dX3_get_0 : decode cX3_get 0 = .ok (.iload_n 1, 1) := by decide +kernel
theorem dX3_get_1 : decode cX3_get 1 = .ok (.aload_n 0, 1) := by decide +kernel
theorem dX3_get_2 : decode cX3_get 2 = .ok (.getfield 7, 3) := by decide +kernel
theorem dX3_get_5 : decode cX3_get 5 = .ok (.imul, 1) := by decide +kernel
theorem dX3_get_6 : decode cX3_get 6 = .ok (.iload_n 2, 1) := by decide +kernel
theorem dX3_get_7 : decode cX3_get 7 = .ok (.iadd, 1) := by decide +kernel
theorem dX3_get_8 : decode cX3_get 8 = .ok (.istore_n 3, 1) := by decide +kernel
theorem dX3_get_9 : decode cX3_get 9 = .ok (.iload_n 3, 1) := by decide +kernel
theorem dX3_get_10 : decode cX3_get 10 = .ok (.ifCond .lt 21, 3) := by decide +kernel
theorem dX3_get_13 : decode cX3_get 13 = .ok (.iload_n 3, 1) := by decide +kernel
theorem dX3_get_14 : decode cX3_get 14 = .ok (.aload_n 0, 1) := by decide +kernel
theorem dX3_get_15 : decode cX3_get 15 = .ok (.getfield 19, 3) := by decide +kernel
theorem dX3_get_18 : decode cX3_get 18 = .ok (.arraylength, 1) := by decide +kernel
theorem dX3_get_19 : decode cX3_get 19 = .ok (.if_icmp .ge 12, 3) := by decide +kernel
theorem dX3_get_22 : decode cX3_get 22 = .ok (.aload_n 0, 1) := by decide +kernel
theorem dX3_get_23 : decode cX3_get 23 = .ok (.getfield 19, 3) := by decide +kernel
theorem dX3_get_26 : decode cX3_get 26 = .ok (.iload_n 3, 1) := by decide +kernel
theorem dX3_get_27 : decode cX3_get 27 = .ok (.iaload, 1) := by decide +kernel
theorem dX3_get_28 : decode cX3_get 28 = .ok (.goto 4, 3) := by decide +kernel
theorem dX3_get_31 : decode cX3_get 31 = .ok (.iconst 0, 1) := by decide +kernel
theorem dX3_get_32 : decode cX3_get 32 = .ok (.ireturn, 1) := by decide +kernel
theorem dX3_put_0 : decode cX3_put 0 = .ok (.iload_n 1, 1) := by decide +kernel
theorem dX3_put_1 : decode cX3_put 1 = .ok (.aload_n 0, 1) := by decide +kernel
theorem dX3_put_2 : decode cX3_put 2 = .ok (.getfield 7, 3) := by decide +kernel
theorem dX3_put_5 : decode cX3_put 5 = .ok (.imul, 1) := by decide +kernel
theorem dX3_put_6 : decode cX3_put 6 = .ok (.iload_n 2, 1) := by decide +kernel
theorem dX3_put_7 : decode cX3_put 7 = .ok (.iadd, 1) := by decide +kernel
theorem dX3_put_8 : decode cX3_put 8 = .ok (.istore 4, 2) := by decide +kernel
theorem dX3_put_10 : decode cX3_put 10 = .ok (.iload 4, 2) := by decide +kernel
theorem dX3_put_12 : decode cX3_put 12 = .ok (.ifCond .lt 21, 3) := by decide +kernel
theorem dX3_put_15 : decode cX3_put 15 = .ok (.iload 4, 2) := by decide +kernel
theorem dX3_put_17 : decode cX3_put 17 = .ok (.aload_n 0, 1) := by decide +kernel
theorem dX3_put_18 : decode cX3_put 18 = .ok (.getfield 19, 3) := by decide +kernel
theorem dX3_put_21 : decode cX3_put 21 = .ok (.arraylength, 1) := by decide +kernel
theorem dX3_put_22 : decode cX3_put 22 = .ok (.if_icmp .ge 11, 3) := by decide +kernel
theorem dX3_put_25 : decode cX3_put 25 = .ok (.aload_n 0, 1) := by decide +kernel
theorem dX3_put_26 : decode cX3_put 26 = .ok (.getfield 19, 3) := by decide +kernel
theorem dX3_put_29 : decode cX3_put 29 = .ok (.iload 4, 2) := by decide +kernel
theorem dX3_put_31 : decode cX3_put 31 = .ok (.iload_n 3, 1) := by decide +kernel
theorem dX3_put_32 : decode cX3_put 32 = .ok (.iastore, 1) := by decide +kernel
theorem dX3_put_33 : decode cX3_put 33 = .ok (.return_, 1) := by decide +kernel
theorem dX3_increase_0 : decode cX3_increase 0 = .ok (.iload_n 1, 1) := by decide +kernel
theorem dX3_increase_1 : decode cX3_increase 1 = .ok (.aload_n 0, 1) := by decide +kernel
theorem dX3_increase_2 : decode cX3_increase 2 = .ok (.getfield 7, 3) := by decide +kernel
theorem dX3_increase_5 : decode cX3_increase 5 = .ok (.imul, 1) := by decide +kernel
theorem dX3_increase_6 : decode cX3_increase 6 = .ok (.iload_n 2, 1) := by decide +kernel
theorem dX3_increase_7 : decode cX3_increase 7 = .ok (.iadd, 1) := by decide +kernel
theorem dX3_increase_8 : decode cX3_increase 8 = .ok (.istore 4, 2) := by decide +kernel
theorem dX3_increase_10 : decode cX3_increase 10 = .ok (.iload 4, 2) := by decide +kernel
theorem dX3_increase_12 : decode cX3_increase 12 = .ok (.ifCond .lt 24, 3) := by decide +kernel
theorem dX3_increase_15 : decode cX3_increase 15 = .ok (.iload 4, 2) := by decide +kernel
theorem dX3_increase_17 : decode cX3_increase 17 = .ok (.aload_n 0, 1) := by decide +kernel
theorem dX3_increase_18 : decode cX3_increase 18 = .ok (.getfield 19, 3) := by decide +kernel
theorem dX3_increase_21 : decode cX3_increase 21 = .ok (.arraylength, 1) := by decide +kernel
theorem dX3_increase_22 : decode cX3_increase 22 = .ok (.if_icmp .ge 14, 3) := by decide +kernel
theorem dX3_increase_25 : decode cX3_increase 25 = .ok (.aload_n 0, 1) := by decide +kernel
theorem dX3_increase_26 : decode cX3_increase 26 = .ok (.getfield 19, 3) := by decide +kernel
theorem dX3_increase_29 : decode cX3_increase 29 = .ok (.iload 4, 2) := by decide +kernel
theorem dX3_increase_31 : decode cX3_increase 31 = .ok (.dup2, 1) := by decide +kernel
theorem dX3_increase_32 : decode cX3_increase 32 = .ok (.iaload, 1) := by decide +kernel
theorem dX3_increase_33 : decode cX3_increase 33 = .ok (.iload_n 3, 1) := by decide +kernel
theorem dX3_increase_34 : decode cX3_increase 34 = .ok (.iadd, 1) := by decide +kernel
theorem dX3_increase_35 : decode cX3_increase 35 = .ok (.iastore, 1) := by decide +kernel
theorem dX3_increase_36 : decode cX3_increase 36 = .ok (.return_, 1) := by decide +kernel
theorem dX3_removeRow_0 : decode cX3_removeRow 0 = .ok (.iload_n 1, 1) := by decide +kernel
theorem dX3_removeRow_1 : decode cX3_removeRow 1 = .ok (.aload_n 0, 1) := by decide +kernel
theorem dX3_removeRow_2 : decode cX3_removeRow 2 = .ok (.getfield 7, 3) := by decide +kernel
theorem dX3_removeRow_5 : decode cX3_removeRow 5 = .ok (.imul, 1) := by decide +kernel
theorem dX3_removeRow_6 : decode cX3_removeRow 6 = .ok (.istore_n 2, 1) := by decide +kernel
theorem dX3_removeRow_7 : decode cX3_removeRow 7 = .ok (.iload_n 2, 1) := by decide +kernel
theorem dX3_removeRow_8 : decode cX3_removeRow 8 = .ok (.ifCond .lt 40, 3) := by decide +kernel
theorem dX3_removeRow_11 : decode cX3_removeRow 11 = .ok (.iload_n 2, 1) := by decide +kernel
theorem dX3_removeRow_12 : decode cX3_removeRow 12 = .ok (.aload_n 0, 1) := by decide +kernel
theorem dX3_removeRow_13 : decode cX3_removeRow 13 = .ok (.getfield 19, 3) := by decide +kernel
theorem dX3_removeRow_16 : decode cX3_removeRow 16 = .ok (.arraylength, 1) := by decide +kernel
theorem dX3_removeRow_17 : decode cX3_removeRow 17 = .ok (.aload_n 0, 1) := by decide +kernel
theorem dX3_removeRow_18 : decode cX3_removeRow 18 = .ok (.getfield 7, 3) := by decide +kernel
theorem dX3_removeRow_21 : decode cX3_removeRow 21 = .ok (.isub, 1) := by decide +kernel
theorem dX3_removeRow_22 : decode cX3_removeRow 22 = .ok (.if_icmp .ge 26, 3) := by decide +kernel
theorem dX3_removeRow_25 : decode cX3_removeRow 25 = .ok (.aload_n 0, 1) := by decide +kernel
theorem dX3_removeRow_26 : decode cX3_removeRow 26 = .ok (.getfield 19, 3) := by decide +kernel
theorem dX3_removeRow_29 : decode cX3_removeRow 29 = .ok (.iload_n 2, 1) := by decide +kernel
theorem dX3_removeRow_30 : decode cX3_removeRow 30 = .ok (.aload_n 0, 1) := by decide +kernel
theorem dX3_removeRow_31 : decode cX3_removeRow 31 = .ok (.getfield 19, 3) := by decide +kernel
theorem dX3_removeRow_34 : decode cX3_removeRow 34 = .ok (.iload_n 2, 1) := by decide +kernel
theorem dX3_removeRow_35 : decode cX3_removeRow 35 = .ok (.aload_n 0, 1) := by decide +kernel
theorem dX3_removeRow_36 : decode cX3_removeRow 36 = .ok (.getfield 7, 3) := by decide +kernel
theorem dX3_removeRow_39 : decode cX3_removeRow 39 = .ok (.iadd, 1) := by decide +kernel
theorem dX3_removeRow_40 : decode cX3_removeRow 40 = .ok (.iaload, 1) := by decide +kernel
theorem dX3_removeRow_41 : decode cX3_removeRow 41 = .ok (.iastore, 1) := by decide +kernel
theorem dX3_removeRow_42 : decode cX3_removeRow 42 = .ok (.iinc 2 1, 3) := by decide +kernel
theorem dX3_removeRow_45 : decode cX3_removeRow 45 = .ok (.goto (-38), 3) := by decide +kernel
theorem dX3_removeRow_48 : decode cX3_removeRow 48 = .ok (.return_, 1) := by decide +kernel
theorem dX3_insertRow_0 : decode cX3_insertRow 0 = .ok (.iload_n 1, 1) := by decide +kernel
theorem dX3_insertRow_1 : decode cX3_insertRow 1 = .ok (.iconst 1, 1) := by decide +kernel
theorem dX3_insertRow_2 : decode cX3_insertRow 2 = .ok (.iadd, 1) := by decide +kernel
theorem dX3_insertRow_3 : decode cX3_insertRow 3 = .ok (.aload_n 0, 1) := by decide +kernel
theorem dX3_insertRow_4 : decode cX3_insertRow 4 = .ok (.getfield 7, 3) := by decide +kernel
theorem dX3_insertRow_7 : decode cX3_insertRow 7 = .ok (.imul, 1) := by decide +kernel
theorem dX3_insertRow_8 : decode cX3_insertRow 8 = .ok (.istore_n 2, 1) := by decide +kernel
theorem dX3_insertRow_9 : decode cX3_insertRow 9 = .ok (.aload_n 0, 1) := by decide +kernel
theorem dX3_insertRow_10 : decode cX3_insertRow 10 = .ok (.getfield 19, 3) := by decide +kernel
theorem dX3_insertRow_13 : decode cX3_insertRow 13 = .ok (.arraylength, 1) := by decide +kernel
theorem dX3_insertRow_14 : decode cX3_insertRow 14 = .ok (.iconst 1, 1) := by decide +kernel
theorem dX3_insertRow_15 : decode cX3_insertRow 15 = .ok (.isub, 1) := by decide +kernel
theorem dX3_insertRow_16 : decode cX3_insertRow 16 = .ok (.istore_n 3, 1) := by decide +kernel
theorem dX3_insertRow_17 : decode cX3_insertRow 17 = .ok (.iload_n 3, 1) := by decide +kernel
theorem dX3_insertRow_18 : decode cX3_insertRow 18 = .ok (.iload_n 2, 1) := by decide +kernel
theorem dX3_insertRow_19 : decode cX3_insertRow 19 = .ok (.if_icmp .lt 34, 3) := by decide +kernel
theorem dX3_insertRow_22 : decode cX3_insertRow 22 = .ok (.iload_n 3, 1) := by decide +kernel
theorem dX3_insertRow_23 : decode cX3_insertRow 23 = .ok (.aload_n 0, 1) := by decide +kernel
theorem dX3_insertRow_24 : decode cX3_insertRow 24 = .ok (.getfield 7, 3) := by decide +kernel
theorem dX3_insertRow_27 : decode cX3_insertRow 27 = .ok (.if_icmp .lt 26, 3) := by decide +kernel
theorem dX3_insertRow_30 : decode cX3_insertRow 30 = .ok (.aload_n 0, 1) := by decide +kernel
theorem dX3_insertRow_31 : decode cX3_insertRow 31 = .ok (.getfield 19, 3) := by decide +kernel
theorem dX3_insertRow_34 : decode cX3_insertRow 34 = .ok (.iload_n 3, 1) := by decide +kernel
theorem dX3_insertRow_35 : decode cX3_insertRow 35 = .ok (.aload_n 0, 1) := by decide +kernel
theorem dX3_insertRow_36 : decode cX3_insertRow 36 = .ok (.getfield 19, 3) := by decide +kernel
theorem dX3_insertRow_39 : decode cX3_insertRow 39 = .ok (.iload_n 3, 1) := by decide +kernel
theorem dX3_insertRow_40 : decode cX3_insertRow 40 = .ok (.aload_n 0, 1) := by decide +kernel
theorem dX3_insertRow_41 : decode cX3_insertRow 41 = .ok (.getfield 7, 3) := by decide +kernel
theorem dX3_insertRow_44 : decode cX3_insertRow 44 = .ok (.isub, 1) := by decide +kernel
theorem dX3_insertRow_45 : decode cX3_insertRow 45 = .ok (.iaload, 1) := by decide +kernel
theorem dX3_insertRow_46 : decode cX3_insertRow 46 = .ok (.iastore, 1) := by decide +kernel
theorem dX3_insertRow_47 : decode cX3_insertRow 47 = .ok (.iinc 3 (-1), 3) := by decide +kernel
theorem dX3_insertRow_50 : decode cX3_insertRow 50 = .ok (.goto (-33), 3) := by decide +kernel
theorem dX3_insertRow_53 : decode cX3_insertRow 53 = .ok (.return_, 1) := by decide +kernel
theorem dX3_copyFrom_0 : decode cX3_copyFrom 0 = .ok (.aload_n 1, 1) := by decide +kernel
theorem dX3_copyFrom_1 : decode cX3_copyFrom 1 = .ok (.getfield 19, 3) := by decide +kernel
theorem dX3_copyFrom_4 : decode cX3_copyFrom 4 = .ok (.iconst 0, 1) := by decide +kernel
theorem dX3_copyFrom_5 : decode cX3_copyFrom 5 = .ok (.aload_n 0, 1) := by decide +kernel
theorem dX3_copyFrom_6 : decode cX3_copyFrom 6 = .ok (.getfield 19, 3) := by decide +kernel
theorem dX3_copyFrom_9 : decode cX3_copyFrom 9 = .ok (.iconst 0, 1) := by decide +kernel
theorem dX3_copyFrom_10 : decode cX3_copyFrom 10 = .ok (.aload_n 1, 1) := by decide +kernel
theorem dX3_copyFrom_11 : decode cX3_copyFrom 11 = .ok (.getfield 19, 3) := by decide +kernel
theorem dX3_copyFrom_14 : decode cX3_copyFrom 14 = .ok (.arraylength, 1) := by decide +kernel
theorem dX3_copyFrom_15 : decode cX3_copyFrom 15 = .ok (.aload_n 0, 1) := by decide +kernel
theorem dX3_copyFrom_16 : decode cX3_copyFrom 16 = .ok (.getfield 19, 3) := by decide +kernel
theorem dX3_copyFrom_19 : decode cX3_copyFrom 19 = .ok (.arraylength, 1) := by decide +kernel
theorem dX3_copyFrom_20 : decode cX3_copyFrom 20 = .ok (.invokestatic 23, 3) := by decide +kernel
theorem dX3_copyFrom_23 : decode cX3_copyFrom 23 = .ok (.invokestatic 26, 3) := by decide +kernel
theorem dX3_copyFrom_26 : decode cX3_copyFrom 26 = .ok (.return_, 1) := by decide +kernel
theorem dX4_init_0 : decode cX4_init 0 = .ok (.aload_n 0, 1) := by decide +kernel
theorem dX4_init_1 : decode cX4_init 1 = .ok (.invokespecial 3, 3) := by decide +kernel
theorem dX4_init_4 : decode cX4_init 4 = .ok (.aload_n 0, 1) := by decide +kernel
theorem dX4_init_5 : decode cX4_init 5 = .ok (.bipush 60, 2) := by decide +kernel
theorem dX4_init_7 : decode cX4_init 7 = .ok (.newarray .int, 2) := by decide +kernel
theorem dX4_init_9 : decode cX4_init 9 = .ok (.putfield 9, 3) := by decide +kernel
theorem dX4_init_12 : decode cX4_init 12 = .ok (.aload_n 0, 1) := by decide +kernel
theorem dX4_init_13 : decode cX4_init 13 = .ok (.new 15, 3) := by decide +kernel
theorem dX4_init_16 : decode cX4_init 16 = .ok (.dup, 1) := by decide +kernel
theorem dX4_init_17 : decode cX4_init 17 = .ok (.invokespecial 17, 3) := by decide +kernel
theorem dX4_init_20 : decode cX4_init 20 = .ok (.putfield 18, 3) := by decide +kernel
theorem dX4_init_23 : decode cX4_init 23 = .ok (.return_, 1) := by decide +kernel
theorem dX4_length_0 : decode cX4_length 0 = .ok (.aload_n 0, 1) := by decide +kernel
theorem dX4_length_1 : decode cX4_length 1 = .ok (.getfield 22, 3) := by decide +kernel
theorem dX4_length_4 : decode cX4_length 4 = .ok (.ireturn, 1) := by decide +kernel
theorem dX4_codeAt_0 : decode cX4_codeAt 0 = .ok (.iload_n 1, 1) := by decide +kernel
theorem dX4_codeAt_1 : decode cX4_codeAt 1 = .ok (.ifCond .lt 21, 3) := by decide +kernel
theorem dX4_codeAt_4 : decode cX4_codeAt 4 = .ok (.iload_n 1, 1) := by decide +kernel
theorem dX4_codeAt_5 : decode cX4_codeAt 5 = .ok (.aload_n 0, 1) := by decide +kernel
theorem dX4_codeAt_6 : decode cX4_codeAt 6 = .ok (.getfield 9, 3) := by decide +kernel
theorem dX4_codeAt_9 : decode cX4_codeAt 9 = .ok (.arraylength, 1) := by decide +kernel
theorem dX4_codeAt_10 : decode cX4_codeAt 10 = .ok (.if_icmp .ge 12, 3) := by decide +kernel
theorem dX4_codeAt_13 : decode cX4_codeAt 13 = .ok (.aload_n 0, 1) := by decide +kernel
theorem dX4_codeAt_14 : decode cX4_codeAt 14 = .ok (.getfield 9, 3) := by decide +kernel
theorem dX4_codeAt_17 : decode cX4_codeAt 17 = .ok (.iload_n 1, 1) := by decide +kernel
theorem dX4_codeAt_18 : decode cX4_codeAt 18 = .ok (.iaload, 1) := by decide +kernel
theorem dX4_codeAt_19 : decode cX4_codeAt 19 = .ok (.goto 4, 3) := by decide +kernel
theorem dX4_codeAt_22 : decode cX4_codeAt 22 = .ok (.iconst 0, 1) := by decide +kernel
theorem dX4_codeAt_23 : decode cX4_codeAt 23 = .ok (.ireturn, 1) := by decide +kernel
theorem dX4_add_0 : decode cX4_add 0 = .ok (.aload_n 0, 1) := by decide +kernel
theorem dX4_add_1 : decode cX4_add 1 = .ok (.getfield 22, 3) := by decide +kernel
theorem dX4_add_4 : decode cX4_add 4 = .ok (.ifCond .lt 35, 3) := by decide +kernel
theorem dX4_add_7 : decode cX4_add 7 = .ok (.aload_n 0, 1) := by decide +kernel
theorem dX4_add_8 : decode cX4_add 8 = .ok (.getfield 22, 3) := by decide +kernel
theorem dX4_add_11 : decode cX4_add 11 = .ok (.aload_n 0, 1) := by decide +kernel
theorem dX4_add_12 : decode cX4_add 12 = .ok (.getfield 9, 3) := by decide +kernel
theorem dX4_add_15 : decode cX4_add 15 = .ok (.arraylength, 1) := by decide +kernel
theorem dX4_add_16 : decode cX4_add 16 = .ok (.if_icmp .ge 23, 3) := by decide +kernel
theorem dX4_add_19 : decode cX4_add 19 = .ok (.aload_n 0, 1) := by decide +kernel
theorem dX4_add_20 : decode cX4_add 20 = .ok (.getfield 9, 3) := by decide +kernel
theorem dX4_add_23 : decode cX4_add 23 = .ok (.aload_n 0, 1) := by decide +kernel
theorem dX4_add_24 : decode cX4_add 24 = .ok (.getfield 22, 3) := by decide +kernel
theorem dX4_add_27 : decode cX4_add 27 = .ok (.iload_n 1, 1) := by decide +kernel
theorem dX4_add_28 : decode cX4_add 28 = .ok (.iastore, 1) := by decide +kernel
theorem dX4_add_29 : decode cX4_add 29 = .ok (.aload_n 0, 1) := by decide +kernel
theorem dX4_add_30 : decode cX4_add 30 = .ok (.dup, 1) := by decide +kernel
theorem dX4_add_31 : decode cX4_add 31 = .ok (.getfield 22, 3) := by decide +kernel
theorem dX4_add_34 : decode cX4_add 34 = .ok (.iconst 1, 1) := by decide +kernel
theorem dX4_add_35 : decode cX4_add 35 = .ok (.iadd, 1) := by decide +kernel
theorem dX4_add_36 : decode cX4_add 36 = .ok (.putfield 22, 3) := by decide +kernel
theorem dX4_add_39 : decode cX4_add 39 = .ok (.return_, 1) := by decide +kernel
theorem dX4_wipe_0 : decode cX4_wipe 0 = .ok (.aload_n 0, 1) := by decide +kernel
theorem dX4_wipe_1 : decode cX4_wipe 1 = .ok (.iconst 0, 1) := by decide +kernel
theorem dX4_wipe_2 : decode cX4_wipe 2 = .ok (.putfield 22, 3) := by decide +kernel
theorem dX4_wipe_5 : decode cX4_wipe 5 = .ok (.return_, 1) := by decide +kernel
theorem dX4_firstFault_0 : decode cX4_firstFault 0 = .ok (.aload_n 0, 1) := by decide +kernel
theorem dX4_firstFault_1 : decode cX4_firstFault 1 = .ok (.getfield 18, 3) := by decide +kernel
theorem dX4_firstFault_4 : decode cX4_firstFault 4 = .ok (.invokevirtual 26, 3) := by decide +kernel
theorem dX4_firstFault_7 : decode cX4_firstFault 7 = .ok (.iconst 0, 1) := by decide +kernel
theorem dX4_firstFault_8 : decode cX4_firstFault 8 = .ok (.istore_n 1, 1) := by decide +kernel
theorem dX4_firstFault_9 : decode cX4_firstFault 9 = .ok (.iload_n 1, 1) := by decide +kernel
theorem dX4_firstFault_10 : decode cX4_firstFault 10 = .ok (.aload_n 0, 1) := by decide +kernel
theorem dX4_firstFault_11 : decode cX4_firstFault 11 = .ok (.getfield 22, 3) := by decide +kernel
theorem dX4_firstFault_14 : decode cX4_firstFault 14 = .ok (.if_icmp .ge 26, 3) := by decide +kernel
theorem dX4_firstFault_17 : decode cX4_firstFault 17 = .ok (.aload_n 0, 1) := by decide +kernel
theorem dX4_firstFault_18 : decode cX4_firstFault 18 = .ok (.getfield 18, 3) := by decide +kernel
theorem dX4_firstFault_21 : decode cX4_firstFault 21 = .ok (.aload_n 0, 1) := by decide +kernel
theorem dX4_firstFault_22 : decode cX4_firstFault 22 = .ok (.iload_n 1, 1) := by decide +kernel
theorem dX4_firstFault_23 : decode cX4_firstFault 23 = .ok (.invokevirtual 29, 3) := by decide +kernel
theorem dX4_firstFault_26 : decode cX4_firstFault 26 = .ok (.invokevirtual 33, 3) := by decide +kernel
theorem dX4_firstFault_29 : decode cX4_firstFault 29 = .ok (.ifCond .ne 5, 3) := by decide +kernel
theorem dX4_firstFault_32 : decode cX4_firstFault 32 = .ok (.iload_n 1, 1) := by decide +kernel
theorem dX4_firstFault_33 : decode cX4_firstFault 33 = .ok (.ireturn, 1) := by decide +kernel
theorem dX4_firstFault_34 : decode cX4_firstFault 34 = .ok (.iinc 1 1, 3) := by decide +kernel
theorem dX4_firstFault_37 : decode cX4_firstFault 37 = .ok (.goto (-28), 3) := by decide +kernel
theorem dX4_firstFault_40 : decode cX4_firstFault 40 = .ok (.aload_n 0, 1) := by decide +kernel
theorem dX4_firstFault_41 : decode cX4_firstFault 41 = .ok (.getfield 22, 3) := by decide +kernel
theorem dX4_firstFault_44 : decode cX4_firstFault 44 = .ok (.ireturn, 1) := by decide +kernel
theorem dX4_isWholePlan_0 : decode cX4_isWholePlan 0 = .ok (.aload_n 0, 1) := by decide +kernel
theorem dX4_isWholePlan_1 : decode cX4_isWholePlan 1 = .ok (.invokevirtual 37, 3) := by decide +kernel
theorem dX4_isWholePlan_4 : decode cX4_isWholePlan 4 = .ok (.aload_n 0, 1) := by decide +kernel
theorem dX4_isWholePlan_5 : decode cX4_isWholePlan 5 = .ok (.getfield 22, 3) := by decide +kernel
theorem dX4_isWholePlan_8 : decode cX4_isWholePlan 8 = .ok (.if_icmp .ne 17, 3) := by decide +kernel
theorem dX4_isWholePlan_11 : decode cX4_isWholePlan 11 = .ok (.aload_n 0, 1) := by decide +kernel
theorem dX4_isWholePlan_12 : decode cX4_isWholePlan 12 = .ok (.getfield 18, 3) := by decide +kernel
theorem dX4_isWholePlan_15 : decode cX4_isWholePlan 15 = .ok (.invokevirtual 41, 3) := by decide +kernel
theorem dX4_isWholePlan_18 : decode cX4_isWholePlan 18 = .ok (.ifCond .eq 7, 3) := by decide +kernel
theorem dX4_isWholePlan_21 : decode cX4_isWholePlan 21 = .ok (.iconst 1, 1) := by decide +kernel
theorem dX4_isWholePlan_22 : decode cX4_isWholePlan 22 = .ok (.goto 4, 3) := by decide +kernel
theorem dX4_isWholePlan_25 : decode cX4_isWholePlan 25 = .ok (.iconst 0, 1) := by decide +kernel
theorem dX4_isWholePlan_26 : decode cX4_isWholePlan 26 = .ok (.ireturn, 1) := by decide +kernel
theorem dX4_projectsInPlan_0 : decode cX4_projectsInPlan 0 = .ok (.iconst 1, 1) := by decide +kernel
theorem dX4_projectsInPlan_1 : decode cX4_projectsInPlan 1 = .ok (.istore_n 1, 1) := by decide +kernel
theorem dX4_projectsInPlan_2 : decode cX4_projectsInPlan 2 = .ok (.iconst 0, 1) := by decide +kernel
theorem dX4_projectsInPlan_3 : decode cX4_projectsInPlan 3 = .ok (.istore_n 2, 1) := by decide +kernel
theorem dX4_projectsInPlan_4 : decode cX4_projectsInPlan 4 = .ok (.iload_n 2, 1) := by decide +kernel
theorem dX4_projectsInPlan_5 : decode cX4_projectsInPlan 5 = .ok (.aload_n 0, 1) := by decide +kernel
theorem dX4_projectsInPlan_6 : decode cX4_projectsInPlan 6 = .ok (.getfield 22, 3) := by decide +kernel
theorem dX4_projectsInPlan_9 : decode cX4_projectsInPlan 9 = .ok (.if_icmp .ge 22, 3) := by decide +kernel
theorem dX4_projectsInPlan_12 : decode cX4_projectsInPlan 12 = .ok (.aload_n 0, 1) := by decide +kernel
theorem dX4_projectsInPlan_13 : decode cX4_projectsInPlan 13 = .ok (.iload_n 2, 1) := by decide +kernel
theorem dX4_projectsInPlan_14 : decode cX4_projectsInPlan 14 = .ok (.invokevirtual 29, 3) := by decide +kernel
theorem dX4_projectsInPlan_17 : decode cX4_projectsInPlan 17 = .ok (.bipush 59, 2) := by decide +kernel
theorem dX4_projectsInPlan_19 : decode cX4_projectsInPlan 19 = .ok (.if_icmp .ne 6, 3) := by decide +kernel
theorem dX4_projectsInPlan_22 : decode cX4_projectsInPlan 22 = .ok (.iinc 1 1, 3) := by decide +kernel
theorem dX4_projectsInPlan_25 : decode cX4_projectsInPlan 25 = .ok (.iinc 2 1, 3) := by decide +kernel
theorem dX4_projectsInPlan_28 : decode cX4_projectsInPlan 28 = .ok (.goto (-24), 3) := by decide +kernel
theorem dX4_projectsInPlan_31 : decode cX4_projectsInPlan 31 = .ok (.iload_n 1, 1) := by decide +kernel
theorem dX4_projectsInPlan_32 : decode cX4_projectsInPlan 32 = .ok (.ireturn, 1) := by decide +kernel
theorem dX5_init_0 : decode cX5_init 0 = .ok (.aload_n 0, 1) := by decide +kernel
theorem dX5_init_1 : decode cX5_init 1 = .ok (.invokespecial 3, 3) := by decide +kernel
theorem dX5_init_4 : decode cX5_init 4 = .ok (.aload_n 0, 1) := by decide +kernel
theorem dX5_init_5 : decode cX5_init 5 = .ok (.new 9, 3) := by decide +kernel
theorem dX5_init_8 : decode cX5_init 8 = .ok (.dup, 1) := by decide +kernel
theorem dX5_init_9 : decode cX5_init 9 = .ok (.invokespecial 11, 3) := by decide +kernel
theorem dX5_init_12 : decode cX5_init 12 = .ok (.putfield 12, 3) := by decide +kernel
theorem dX5_init_15 : decode cX5_init 15 = .ok (.aload_n 0, 1) := by decide +kernel
theorem dX5_init_16 : decode cX5_init 16 = .ok (.new 9, 3) := by decide +kernel
theorem dX5_init_19 : decode cX5_init 19 = .ok (.dup, 1) := by decide +kernel
theorem dX5_init_20 : decode cX5_init 20 = .ok (.invokespecial 11, 3) := by decide +kernel
theorem dX5_init_23 : decode cX5_init 23 = .ok (.putfield 16, 3) := by decide +kernel
theorem dX5_init_26 : decode cX5_init 26 = .ok (.aload_n 0, 1) := by decide +kernel
theorem dX5_init_27 : decode cX5_init 27 = .ok (.new 19, 3) := by decide +kernel
theorem dX5_init_30 : decode cX5_init 30 = .ok (.dup, 1) := by decide +kernel
theorem dX5_init_31 : decode cX5_init 31 = .ok (.invokespecial 21, 3) := by decide +kernel
theorem dX5_init_34 : decode cX5_init 34 = .ok (.putfield 22, 3) := by decide +kernel
theorem dX5_init_37 : decode cX5_init 37 = .ok (.aload_n 0, 1) := by decide +kernel
theorem dX5_init_38 : decode cX5_init 38 = .ok (.new 26, 3) := by decide +kernel
theorem dX5_init_41 : decode cX5_init 41 = .ok (.dup, 1) := by decide +kernel
theorem dX5_init_42 : decode cX5_init 42 = .ok (.invokespecial 28, 3) := by decide +kernel
theorem dX5_init_45 : decode cX5_init 45 = .ok (.putfield 29, 3) := by decide +kernel
theorem dX5_init_48 : decode cX5_init 48 = .ok (.return_, 1) := by decide +kernel
theorem dX5_open_0 : decode cX5_open 0 = .ok (.iload_n 1, 1) := by decide +kernel
theorem dX5_open_1 : decode cX5_open 1 = .ok (.iconst 1, 1) := by decide +kernel
theorem dX5_open_2 : decode cX5_open 2 = .ok (.bipush 9, 2) := by decide +kernel
theorem dX5_open_4 : decode cX5_open 4 = .ok (.invokestatic 33, 3) := by decide +kernel
theorem dX5_open_7 : decode cX5_open 7 = .ok (.ifCond .ne 13, 3) := by decide +kernel
theorem dX5_open_10 : decode cX5_open 10 = .ok (.iload_n 2, 1) := by decide +kernel
theorem dX5_open_11 : decode cX5_open 11 = .ok (.iconst 0, 1) := by decide +kernel
theorem dX5_open_12 : decode cX5_open 12 = .ok (.bipush 99, 2) := by decide +kernel
theorem dX5_open_14 : decode cX5_open 14 = .ok (.invokestatic 33, 3) := by decide +kernel
theorem dX5_open_17 : decode cX5_open 17 = .ok (.ifCond .eq 13, 3) := by decide +kernel
theorem dX5_open_20 : decode cX5_open 20 = .ok (.new 37, 3) := by decide +kernel
theorem dX5_open_23 : decode cX5_open 23 = .ok (.dup, 1) := by decide +kernel
theorem dX5_open_24 : decode cX5_open 24 = .ok (.ldc 39, 2) := by decide +kernel
theorem dX5_open_26 : decode cX5_open 26 = .ok (.invokespecial 41, 3) := by decide +kernel
theorem dX5_open_29 : decode cX5_open 29 = .ok (.athrow, 1) := by decide +kernel
theorem dX5_open_30 : decode cX5_open 30 = .ok (.aload_n 0, 1) := by decide +kernel
theorem dX5_open_31 : decode cX5_open 31 = .ok (.getfield 12, 3) := by decide +kernel
theorem dX5_open_34 : decode cX5_open 34 = .ok (.invokevirtual 44, 3) := by decide +kernel
theorem dX5_open_37 : decode cX5_open 37 = .ok (.bipush 6, 2) := by decide +kernel
theorem dX5_open_39 : decode cX5_open 39 = .ok (.if_icmp .lt 13, 3) := by decide +kernel
theorem dX5_open_42 : decode cX5_open 42 = .ok (.new 48, 3) := by decide +kernel
theorem dX5_open_45 : decode cX5_open 45 = .ok (.dup, 1) := by decide +kernel
theorem dX5_open_46 : decode cX5_open 46 = .ok (.ldc 50, 2) := by decide +kernel
theorem dX5_open_48 : decode cX5_open 48 = .ok (.invokespecial 52, 3) := by decide +kernel
theorem dX5_open_51 : decode cX5_open 51 = .ok (.athrow, 1) := by decide +kernel
theorem dX5_open_52 : decode cX5_open 52 = .ok (.aload_n 0, 1) := by decide +kernel
theorem dX5_open_53 : decode cX5_open 53 = .ok (.getfield 22, 3) := by decide +kernel
theorem dX5_open_56 : decode cX5_open 56 = .ok (.aload_n 0, 1) := by decide +kernel
theorem dX5_open_57 : decode cX5_open 57 = .ok (.getfield 12, 3) := by decide +kernel
theorem dX5_open_60 : decode cX5_open 60 = .ok (.invokevirtual 53, 3) := by decide +kernel
theorem dX5_open_63 : decode cX5_open 63 = .ok (.aload_n 0, 1) := by decide +kernel
theorem dX5_open_64 : decode cX5_open 64 = .ok (.getfield 12, 3) := by decide +kernel
theorem dX5_open_67 : decode cX5_open 67 = .ok (.iload_n 1, 1) := by decide +kernel
theorem dX5_open_68 : decode cX5_open 68 = .ok (.iload_n 2, 1) := by decide +kernel
theorem dX5_open_69 : decode cX5_open 69 = .ok (.invokevirtual 57, 3) := by decide +kernel
theorem dX5_open_72 : decode cX5_open 72 = .ok (.ireturn, 1) := by decide +kernel
theorem dX5_plan_0 : decode cX5_plan 0 = .ok (.aload_n 0, 1) := by decide +kernel
theorem dX5_plan_1 : decode cX5_plan 1 = .ok (.iload_n 1, 1) := by decide +kernel
theorem dX5_plan_2 : decode cX5_plan 2 = .ok (.invokevirtual 61, 3) := by decide +kernel
theorem dX5_plan_5 : decode cX5_plan 5 = .ok (.iload_n 2, 1) := by decide +kernel
theorem dX5_plan_6 : decode cX5_plan 6 = .ok (.iconst 1, 1) := by decide +kernel
theorem dX5_plan_7 : decode cX5_plan 7 = .ok (.bipush 60, 2) := by decide +kernel
theorem dX5_plan_9 : decode cX5_plan 9 = .ok (.invokestatic 33, 3) := by decide +kernel
theorem dX5_plan_12 : decode cX5_plan 12 = .ok (.ifCond .eq 13, 3) := by decide +kernel
theorem dX5_plan_15 : decode cX5_plan 15 = .ok (.new 37, 3) := by decide +kernel
theorem dX5_plan_18 : decode cX5_plan 18 = .ok (.dup, 1) := by decide +kernel
theorem dX5_plan_19 : decode cX5_plan 19 = .ok (.ldc 65, 2) := by decide +kernel
theorem dX5_plan_21 : decode cX5_plan 21 = .ok (.invokespecial 41, 3) := by decide +kernel
theorem dX5_plan_24 : decode cX5_plan 24 = .ok (.athrow, 1) := by decide +kernel
theorem dX5_plan_25 : decode cX5_plan 25 = .ok (.aload_n 0, 1) := by decide +kernel
theorem dX5_plan_26 : decode cX5_plan 26 = .ok (.getfield 12, 3) := by decide +kernel
theorem dX5_plan_29 : decode cX5_plan 29 = .ok (.iload_n 1, 1) := by decide +kernel
theorem dX5_plan_30 : decode cX5_plan 30 = .ok (.invokevirtual 67, 3) := by decide +kernel
theorem dX5_plan_33 : decode cX5_plan 33 = .ok (.ifCond .eq 18, 3) := by decide +kernel
theorem dX5_plan_36 : decode cX5_plan 36 = .ok (.aload_n 0, 1) := by decide +kernel
theorem dX5_plan_37 : decode cX5_plan 37 = .ok (.getfield 12, 3) := by decide +kernel
theorem dX5_plan_40 : decode cX5_plan 40 = .ok (.iload_n 1, 1) := by decide +kernel
theorem dX5_plan_41 : decode cX5_plan 41 = .ok (.bipush 7, 2) := by decide +kernel
theorem dX5_plan_43 : decode cX5_plan 43 = .ok (.invokevirtual 71, 3) := by decide +kernel
theorem dX5_plan_46 : decode cX5_plan 46 = .ok (.bipush 8, 2) := by decide +kernel
theorem dX5_plan_48 : decode cX5_plan 48 = .ok (.if_icmp .lt 13, 3) := by decide +kernel
theorem dX5_plan_51 : decode cX5_plan 51 = .ok (.new 48, 3) := by decide +kernel
theorem dX5_plan_54 : decode cX5_plan 54 = .ok (.dup, 1) := by decide +kernel
theorem dX5_plan_55 : decode cX5_plan 55 = .ok (.ldc 74, 2) := by decide +kernel
theorem dX5_plan_57 : decode cX5_plan 57 = .ok (.invokespecial 52, 3) := by decide +kernel
theorem dX5_plan_60 : decode cX5_plan 60 = .ok (.athrow, 1) := by decide +kernel
theorem dX5_plan_61 : decode cX5_plan 61 = .ok (.aload_n 0, 1) := by decide +kernel
theorem dX5_plan_62 : decode cX5_plan 62 = .ok (.getfield 22, 3) := by decide +kernel
theorem dX5_plan_65 : decode cX5_plan 65 = .ok (.aload_n 0, 1) := by decide +kernel
theorem dX5_plan_66 : decode cX5_plan 66 = .ok (.getfield 12, 3) := by decide +kernel
theorem dX5_plan_69 : decode cX5_plan 69 = .ok (.invokevirtual 53, 3) := by decide +kernel
theorem dX5_plan_72 : decode cX5_plan 72 = .ok (.aload_n 0, 1) := by decide +kernel
theorem dX5_plan_73 : decode cX5_plan 73 = .ok (.getfield 12, 3) := by decide +kernel
theorem dX5_plan_76 : decode cX5_plan 76 = .ok (.iload_n 1, 1) := by decide +kernel
theorem dX5_plan_77 : decode cX5_plan 77 = .ok (.iload_n 2, 1) := by decide +kernel
theorem dX5_plan_78 : decode cX5_plan 78 = .ok (.invokevirtual 76, 3) := by decide +kernel
theorem dX5_plan_81 : decode cX5_plan 81 = .ok (.ireturn, 1) := by decide +kernel
theorem dX5_rank_0 : decode cX5_rank 0 = .ok (.aload_n 0, 1) := by decide +kernel
theorem dX5_rank_1 : decode cX5_rank 1 = .ok (.iload_n 1, 1) := by decide +kernel
theorem dX5_rank_2 : decode cX5_rank 2 = .ok (.invokevirtual 61, 3) := by decide +kernel
theorem dX5_rank_5 : decode cX5_rank 5 = .ok (.iload_n 2, 1) := by decide +kernel
theorem dX5_rank_6 : decode cX5_rank 6 = .ok (.iconst 1, 1) := by decide +kernel
theorem dX5_rank_7 : decode cX5_rank 7 = .ok (.bipush 9, 2) := by decide +kernel
theorem dX5_rank_9 : decode cX5_rank 9 = .ok (.invokestatic 33, 3) := by decide +kernel
theorem dX5_rank_12 : decode cX5_rank 12 = .ok (.ifCond .eq 13, 3) := by decide +kernel
theorem dX5_rank_15 : decode cX5_rank 15 = .ok (.new 37, 3) := by decide +kernel
theorem dX5_rank_18 : decode cX5_rank 18 = .ok (.dup, 1) := by decide +kernel
theorem dX5_rank_19 : decode cX5_rank 19 = .ok (.ldc 79, 2) := by decide +kernel
theorem dX5_rank_21 : decode cX5_rank 21 = .ok (.invokespecial 41, 3) := by decide +kernel
theorem dX5_rank_24 : decode cX5_rank 24 = .ok (.athrow, 1) := by decide +kernel
theorem dX5_rank_25 : decode cX5_rank 25 = .ok (.aload_n 0, 1) := by decide +kernel
theorem dX5_rank_26 : decode cX5_rank 26 = .ok (.getfield 22, 3) := by decide +kernel
theorem dX5_rank_29 : decode cX5_rank 29 = .ok (.aload_n 0, 1) := by decide +kernel
theorem dX5_rank_30 : decode cX5_rank 30 = .ok (.getfield 12, 3) := by decide +kernel
theorem dX5_rank_33 : decode cX5_rank 33 = .ok (.invokevirtual 53, 3) := by decide +kernel
theorem dX5_rank_36 : decode cX5_rank 36 = .ok (.aload_n 0, 1) := by decide +kernel
theorem dX5_rank_37 : decode cX5_rank 37 = .ok (.getfield 12, 3) := by decide +kernel
theorem dX5_rank_40 : decode cX5_rank 40 = .ok (.iload_n 1, 1) := by decide +kernel
theorem dX5_rank_41 : decode cX5_rank 41 = .ok (.iload_n 2, 1) := by decide +kernel
theorem dX5_rank_42 : decode cX5_rank 42 = .ok (.invokevirtual 81, 3) := by decide +kernel
theorem dX5_rank_45 : decode cX5_rank 45 = .ok (.ireturn, 1) := by decide +kernel
theorem dX5_set_0 : decode cX5_set 0 = .ok (.iload_n 1, 1) := by decide +kernel
theorem dX5_set_1 : decode cX5_set 1 = .ok (.invokestatic 84, 3) := by decide +kernel
theorem dX5_set_4 : decode cX5_set 4 = .ok (.iload_n 2, 1) := by decide +kernel
theorem dX5_set_5 : decode cX5_set 5 = .ok (.iconst 0, 1) := by decide +kernel
theorem dX5_set_6 : decode cX5_set 6 = .ok (.iload_n 1, 1) := by decide +kernel
theorem dX5_set_7 : decode cX5_set 7 = .ok (.invokestatic 87, 3) := by decide +kernel
theorem dX5_set_10 : decode cX5_set 10 = .ok (.invokestatic 33, 3) := by decide +kernel
theorem dX5_set_13 : decode cX5_set 13 = .ok (.ifCond .eq 13, 3) := by decide +kernel
theorem dX5_set_16 : decode cX5_set 16 = .ok (.new 37, 3) := by decide +kernel
theorem dX5_set_19 : decode cX5_set 19 = .ok (.dup, 1) := by decide +kernel
theorem dX5_set_20 : decode cX5_set 20 = .ok (.ldc 91, 2) := by decide +kernel
theorem dX5_set_22 : decode cX5_set 22 = .ok (.invokespecial 41, 3) := by decide +kernel
theorem dX5_set_25 : decode cX5_set 25 = .ok (.athrow, 1) := by decide +kernel
theorem dX5_set_26 : decode cX5_set 26 = .ok (.aload_n 0, 1) := by decide +kernel
theorem dX5_set_27 : decode cX5_set 27 = .ok (.getfield 22, 3) := by decide +kernel
theorem dX5_set_30 : decode cX5_set 30 = .ok (.aload_n 0, 1) := by decide +kernel
theorem dX5_set_31 : decode cX5_set 31 = .ok (.getfield 12, 3) := by decide +kernel
theorem dX5_set_34 : decode cX5_set 34 = .ok (.invokevirtual 53, 3) := by decide +kernel
theorem dX5_set_37 : decode cX5_set 37 = .ok (.aload_n 0, 1) := by decide +kernel
theorem dX5_set_38 : decode cX5_set 38 = .ok (.getfield 12, 3) := by decide +kernel
theorem dX5_set_41 : decode cX5_set 41 = .ok (.iload_n 1, 1) := by decide +kernel
theorem dX5_set_42 : decode cX5_set 42 = .ok (.iload_n 2, 1) := by decide +kernel
theorem dX5_set_43 : decode cX5_set 43 = .ok (.invokevirtual 93, 3) := by decide +kernel
theorem dX5_set_46 : decode cX5_set 46 = .ok (.ireturn, 1) := by decide +kernel
theorem dX5_done_0 : decode cX5_done 0 = .ok (.aload_n 0, 1) := by decide +kernel
theorem dX5_done_1 : decode cX5_done 1 = .ok (.iload_n 1, 1) := by decide +kernel
theorem dX5_done_2 : decode cX5_done 2 = .ok (.invokevirtual 61, 3) := by decide +kernel
theorem dX5_done_5 : decode cX5_done 5 = .ok (.iload_n 2, 1) := by decide +kernel
theorem dX5_done_6 : decode cX5_done 6 = .ok (.invokestatic 96, 3) := by decide +kernel
theorem dX5_done_9 : decode cX5_done 9 = .ok (.aload_n 0, 1) := by decide +kernel
theorem dX5_done_10 : decode cX5_done 10 = .ok (.getfield 12, 3) := by decide +kernel
theorem dX5_done_13 : decode cX5_done 13 = .ok (.iload_n 1, 1) := by decide +kernel
theorem dX5_done_14 : decode cX5_done 14 = .ok (.invokevirtual 99, 3) := by decide +kernel
theorem dX5_done_17 : decode cX5_done 17 = .ok (.ifCond .ne 13, 3) := by decide +kernel
theorem dX5_done_20 : decode cX5_done 20 = .ok (.new 48, 3) := by decide +kernel
theorem dX5_done_23 : decode cX5_done 23 = .ok (.dup, 1) := by decide +kernel
theorem dX5_done_24 : decode cX5_done 24 = .ok (.ldc 102, 2) := by decide +kernel
theorem dX5_done_26 : decode cX5_done 26 = .ok (.invokespecial 52, 3) := by decide +kernel
theorem dX5_done_29 : decode cX5_done 29 = .ok (.athrow, 1) := by decide +kernel
theorem dX5_done_30 : decode cX5_done 30 = .ok (.aload_n 0, 1) := by decide +kernel
theorem dX5_done_31 : decode cX5_done 31 = .ok (.getfield 22, 3) := by decide +kernel
theorem dX5_done_34 : decode cX5_done 34 = .ok (.aload_n 0, 1) := by decide +kernel
theorem dX5_done_35 : decode cX5_done 35 = .ok (.getfield 12, 3) := by decide +kernel
theorem dX5_done_38 : decode cX5_done 38 = .ok (.invokevirtual 53, 3) := by decide +kernel
theorem dX5_done_41 : decode cX5_done 41 = .ok (.aload_n 0, 1) := by decide +kernel
theorem dX5_done_42 : decode cX5_done 42 = .ok (.getfield 12, 3) := by decide +kernel
theorem dX5_done_45 : decode cX5_done 45 = .ok (.iload_n 1, 1) := by decide +kernel
theorem dX5_done_46 : decode cX5_done 46 = .ok (.iload_n 2, 1) := by decide +kernel
theorem dX5_done_47 : decode cX5_done 47 = .ok (.invokevirtual 104, 3) := by decide +kernel
theorem dX5_done_50 : decode cX5_done 50 = .ok (.ireturn, 1) := by decide +kernel
theorem dX5_lend_0 : decode cX5_lend 0 = .ok (.aload_n 0, 1) := by decide +kernel
theorem dX5_lend_1 : decode cX5_lend 1 = .ok (.iload_n 1, 1) := by decide +kernel
theorem dX5_lend_2 : decode cX5_lend 2 = .ok (.invokevirtual 61, 3) := by decide +kernel
theorem dX5_lend_5 : decode cX5_lend 5 = .ok (.aload_n 0, 1) := by decide +kernel
theorem dX5_lend_6 : decode cX5_lend 6 = .ok (.iload_n 2, 1) := by decide +kernel
theorem dX5_lend_7 : decode cX5_lend 7 = .ok (.invokevirtual 61, 3) := by decide +kernel
theorem dX5_lend_10 : decode cX5_lend 10 = .ok (.iload_n 1, 1) := by decide +kernel
theorem dX5_lend_11 : decode cX5_lend 11 = .ok (.iload_n 2, 1) := by decide +kernel
theorem dX5_lend_12 : decode cX5_lend 12 = .ok (.if_icmp .eq 13, 3) := by decide +kernel
theorem dX5_lend_15 : decode cX5_lend 15 = .ok (.iload_n 3, 1) := by decide +kernel
theorem dX5_lend_16 : decode cX5_lend 16 = .ok (.iconst 1, 1) := by decide +kernel
theorem dX5_lend_17 : decode cX5_lend 17 = .ok (.bipush 99, 2) := by decide +kernel
theorem dX5_lend_19 : decode cX5_lend 19 = .ok (.invokestatic 33, 3) := by decide +kernel
theorem dX5_lend_22 : decode cX5_lend 22 = .ok (.ifCond .eq 13, 3) := by decide +kernel
theorem dX5_lend_25 : decode cX5_lend 25 = .ok (.new 37, 3) := by decide +kernel
theorem dX5_lend_28 : decode cX5_lend 28 = .ok (.dup, 1) := by decide +kernel
theorem dX5_lend_29 : decode cX5_lend 29 = .ok (.ldc 107, 2) := by decide +kernel
theorem dX5_lend_31 : decode cX5_lend 31 = .ok (.invokespecial 41, 3) := by decide +kernel
theorem dX5_lend_34 : decode cX5_lend 34 = .ok (.athrow, 1) := by decide +kernel
theorem dX5_lend_35 : decode cX5_lend 35 = .ok (.aload_n 0, 1) := by decide +kernel
theorem dX5_lend_36 : decode cX5_lend 36 = .ok (.getfield 12, 3) := by decide +kernel
theorem dX5_lend_39 : decode cX5_lend 39 = .ok (.iload_n 1, 1) := by decide +kernel
theorem dX5_lend_40 : decode cX5_lend 40 = .ok (.invokevirtual 67, 3) := by decide +kernel
theorem dX5_lend_43 : decode cX5_lend 43 = .ok (.ifCond .eq 27, 3) := by decide +kernel
theorem dX5_lend_46 : decode cX5_lend 46 = .ok (.aload_n 0, 1) := by decide +kernel
theorem dX5_lend_47 : decode cX5_lend 47 = .ok (.getfield 12, 3) := by decide +kernel
theorem dX5_lend_50 : decode cX5_lend 50 = .ok (.iload_n 2, 1) := by decide +kernel
theorem dX5_lend_51 : decode cX5_lend 51 = .ok (.invokevirtual 67, 3) := by decide +kernel
theorem dX5_lend_54 : decode cX5_lend 54 = .ok (.ifCond .eq 16, 3) := by decide +kernel
theorem dX5_lend_57 : decode cX5_lend 57 = .ok (.aload_n 0, 1) := by decide +kernel
theorem dX5_lend_58 : decode cX5_lend 58 = .ok (.getfield 12, 3) := by decide +kernel
theorem dX5_lend_61 : decode cX5_lend 61 = .ok (.iload_n 1, 1) := by decide +kernel
theorem dX5_lend_62 : decode cX5_lend 62 = .ok (.iconst 2, 1) := by decide +kernel
theorem dX5_lend_63 : decode cX5_lend 63 = .ok (.invokevirtual 71, 3) := by decide +kernel
theorem dX5_lend_66 : decode cX5_lend 66 = .ok (.iload_n 3, 1) := by decide +kernel
theorem dX5_lend_67 : decode cX5_lend 67 = .ok (.if_icmp .ge 13, 3) := by decide +kernel
theorem dX5_lend_70 : decode cX5_lend 70 = .ok (.new 48, 3) := by decide +kernel
theorem dX5_lend_73 : decode cX5_lend 73 = .ok (.dup, 1) := by decide +kernel
theorem dX5_lend_74 : decode cX5_lend 74 = .ok (.ldc 109, 2) := by decide +kernel
theorem dX5_lend_76 : decode cX5_lend 76 = .ok (.invokespecial 52, 3) := by decide +kernel
theorem dX5_lend_79 : decode cX5_lend 79 = .ok (.athrow, 1) := by decide +kernel
theorem dX5_lend_80 : decode cX5_lend 80 = .ok (.aload_n 0, 1) := by decide +kernel
theorem dX5_lend_81 : decode cX5_lend 81 = .ok (.getfield 22, 3) := by decide +kernel
theorem dX5_lend_84 : decode cX5_lend 84 = .ok (.aload_n 0, 1) := by decide +kernel
theorem dX5_lend_85 : decode cX5_lend 85 = .ok (.getfield 12, 3) := by decide +kernel
theorem dX5_lend_88 : decode cX5_lend 88 = .ok (.invokevirtual 53, 3) := by decide +kernel
theorem dX5_lend_91 : decode cX5_lend 91 = .ok (.aload_n 0, 1) := by decide +kernel
theorem dX5_lend_92 : decode cX5_lend 92 = .ok (.getfield 12, 3) := by decide +kernel
theorem dX5_lend_95 : decode cX5_lend 95 = .ok (.iload_n 1, 1) := by decide +kernel
theorem dX5_lend_96 : decode cX5_lend 96 = .ok (.iload_n 2, 1) := by decide +kernel
theorem dX5_lend_97 : decode cX5_lend 97 = .ok (.iload_n 3, 1) := by decide +kernel
theorem dX5_lend_98 : decode cX5_lend 98 = .ok (.invokevirtual 111, 3) := by decide +kernel
theorem dX5_lend_101 : decode cX5_lend 101 = .ok (.aload_n 0, 1) := by decide +kernel
theorem dX5_lend_102 : decode cX5_lend 102 = .ok (.getfield 12, 3) := by decide +kernel
theorem dX5_lend_105 : decode cX5_lend 105 = .ok (.iload_n 2, 1) := by decide +kernel
theorem dX5_lend_106 : decode cX5_lend 106 = .ok (.iload_n 1, 1) := by decide +kernel
theorem dX5_lend_107 : decode cX5_lend 107 = .ok (.invokevirtual 115, 3) := by decide +kernel
theorem dX5_lend_110 : decode cX5_lend 110 = .ok (.ireturn, 1) := by decide +kernel
theorem dX5_payBack_0 : decode cX5_payBack 0 = .ok (.aload_n 0, 1) := by decide +kernel
theorem dX5_payBack_1 : decode cX5_payBack 1 = .ok (.iload_n 1, 1) := by decide +kernel
theorem dX5_payBack_2 : decode cX5_payBack 2 = .ok (.invokevirtual 61, 3) := by decide +kernel
theorem dX5_payBack_5 : decode cX5_payBack 5 = .ok (.aload_n 0, 1) := by decide +kernel
theorem dX5_payBack_6 : decode cX5_payBack 6 = .ok (.iload_n 2, 1) := by decide +kernel
theorem dX5_payBack_7 : decode cX5_payBack 7 = .ok (.invokevirtual 61, 3) := by decide +kernel
theorem dX5_payBack_10 : decode cX5_payBack 10 = .ok (.iload_n 2, 1) := by decide +kernel
theorem dX5_payBack_11 : decode cX5_payBack 11 = .ok (.iload_n 1, 1) := by decide +kernel
theorem dX5_payBack_12 : decode cX5_payBack 12 = .ok (.if_icmp .eq 14, 3) := by decide +kernel
theorem dX5_payBack_15 : decode cX5_payBack 15 = .ok (.iload_n 3, 1) := by decide +kernel
theorem dX5_payBack_16 : decode cX5_payBack 16 = .ok (.iconst 1, 1) := by decide +kernel
theorem dX5_payBack_17 : decode cX5_payBack 17 = .ok (.sipush 9999, 3) := by decide +kernel
theorem dX5_payBack_20 : decode cX5_payBack 20 = .ok (.invokestatic 33, 3) := by decide +kernel
theorem dX5_payBack_23 : decode cX5_payBack 23 = .ok (.ifCond .eq 13, 3) := by decide +kernel
theorem dX5_payBack_26 : decode cX5_payBack 26 = .ok (.new 37, 3) := by decide +kernel
theorem dX5_payBack_29 : decode cX5_payBack 29 = .ok (.dup, 1) := by decide +kernel
theorem dX5_payBack_30 : decode cX5_payBack 30 = .ok (.ldc 107, 2) := by decide +kernel
theorem dX5_payBack_32 : decode cX5_payBack 32 = .ok (.invokespecial 41, 3) := by decide +kernel
theorem dX5_payBack_35 : decode cX5_payBack 35 = .ok (.athrow, 1) := by decide +kernel
theorem dX5_payBack_36 : decode cX5_payBack 36 = .ok (.aload_n 0, 1) := by decide +kernel
theorem dX5_payBack_37 : decode cX5_payBack 37 = .ok (.getfield 12, 3) := by decide +kernel
theorem dX5_payBack_40 : decode cX5_payBack 40 = .ok (.iload_n 1, 1) := by decide +kernel
theorem dX5_payBack_41 : decode cX5_payBack 41 = .ok (.iload_n 2, 1) := by decide +kernel
theorem dX5_payBack_42 : decode cX5_payBack 42 = .ok (.invokevirtual 115, 3) := by decide +kernel
theorem dX5_payBack_45 : decode cX5_payBack 45 = .ok (.iload_n 3, 1) := by decide +kernel
theorem dX5_payBack_46 : decode cX5_payBack 46 = .ok (.if_icmp .lt 16, 3) := by decide +kernel
theorem dX5_payBack_49 : decode cX5_payBack 49 = .ok (.aload_n 0, 1) := by decide +kernel
theorem dX5_payBack_50 : decode cX5_payBack 50 = .ok (.getfield 12, 3) := by decide +kernel
theorem dX5_payBack_53 : decode cX5_payBack 53 = .ok (.iload_n 1, 1) := by decide +kernel
theorem dX5_payBack_54 : decode cX5_payBack 54 = .ok (.iconst 2, 1) := by decide +kernel
theorem dX5_payBack_55 : decode cX5_payBack 55 = .ok (.invokevirtual 71, 3) := by decide +kernel
theorem dX5_payBack_58 : decode cX5_payBack 58 = .ok (.iload_n 3, 1) := by decide +kernel
theorem dX5_payBack_59 : decode cX5_payBack 59 = .ok (.if_icmp .ge 13, 3) := by decide +kernel
theorem dX5_payBack_62 : decode cX5_payBack 62 = .ok (.new 48, 3) := by decide +kernel
theorem dX5_payBack_65 : decode cX5_payBack 65 = .ok (.dup, 1) := by decide +kernel
theorem dX5_payBack_66 : decode cX5_payBack 66 = .ok (.ldc 118, 2) := by decide +kernel
theorem dX5_payBack_68 : decode cX5_payBack 68 = .ok (.invokespecial 52, 3) := by decide +kernel
theorem dX5_payBack_71 : decode cX5_payBack 71 = .ok (.athrow, 1) := by decide +kernel
theorem dX5_payBack_72 : decode cX5_payBack 72 = .ok (.aload_n 0, 1) := by decide +kernel
theorem dX5_payBack_73 : decode cX5_payBack 73 = .ok (.getfield 22, 3) := by decide +kernel
theorem dX5_payBack_76 : decode cX5_payBack 76 = .ok (.aload_n 0, 1) := by decide +kernel
theorem dX5_payBack_77 : decode cX5_payBack 77 = .ok (.getfield 12, 3) := by decide +kernel
theorem dX5_payBack_80 : decode cX5_payBack 80 = .ok (.invokevirtual 53, 3) := by decide +kernel
theorem dX5_payBack_83 : decode cX5_payBack 83 = .ok (.aload_n 0, 1) := by decide +kernel
theorem dX5_payBack_84 : decode cX5_payBack 84 = .ok (.getfield 12, 3) := by decide +kernel
theorem dX5_payBack_87 : decode cX5_payBack 87 = .ok (.aload_n 0, 1) := by decide +kernel
theorem dX5_payBack_88 : decode cX5_payBack 88 = .ok (.getfield 12, 3) := by decide +kernel
theorem dX5_payBack_91 : decode cX5_payBack 91 = .ok (.iload_n 2, 1) := by decide +kernel
theorem dX5_payBack_92 : decode cX5_payBack 92 = .ok (.iload_n 1, 1) := by decide +kernel
theorem dX5_payBack_93 : decode cX5_payBack 93 = .ok (.invokevirtual 120, 3) := by decide +kernel
theorem dX5_payBack_96 : decode cX5_payBack 96 = .ok (.iload_n 3, 1) := by decide +kernel
theorem dX5_payBack_97 : decode cX5_payBack 97 = .ok (.invokevirtual 123, 3) := by decide +kernel
theorem dX5_payBack_100 : decode cX5_payBack 100 = .ok (.aload_n 0, 1) := by decide +kernel
theorem dX5_payBack_101 : decode cX5_payBack 101 = .ok (.getfield 12, 3) := by decide +kernel
theorem dX5_payBack_104 : decode cX5_payBack 104 = .ok (.iload_n 1, 1) := by decide +kernel
theorem dX5_payBack_105 : decode cX5_payBack 105 = .ok (.iload_n 2, 1) := by decide +kernel
theorem dX5_payBack_106 : decode cX5_payBack 106 = .ok (.invokevirtual 115, 3) := by decide +kernel
theorem dX5_payBack_109 : decode cX5_payBack 109 = .ok (.ireturn, 1) := by decide +kernel
theorem dX5_close_0 : decode cX5_close 0 = .ok (.aload_n 0, 1) := by decide +kernel
theorem dX5_close_1 : decode cX5_close 1 = .ok (.iload_n 1, 1) := by decide +kernel
theorem dX5_close_2 : decode cX5_close 2 = .ok (.invokevirtual 61, 3) := by decide +kernel
theorem dX5_close_5 : decode cX5_close 5 = .ok (.aload_n 0, 1) := by decide +kernel
theorem dX5_close_6 : decode cX5_close 6 = .ok (.getfield 12, 3) := by decide +kernel
theorem dX5_close_9 : decode cX5_close 9 = .ok (.iload_n 1, 1) := by decide +kernel
theorem dX5_close_10 : decode cX5_close 10 = .ok (.invokevirtual 67, 3) := by decide +kernel
theorem dX5_close_13 : decode cX5_close 13 = .ok (.ifCond .eq 14, 3) := by decide +kernel
theorem dX5_close_16 : decode cX5_close 16 = .ok (.aload_n 0, 1) := by decide +kernel
theorem dX5_close_17 : decode cX5_close 17 = .ok (.getfield 12, 3) := by decide +kernel
theorem dX5_close_20 : decode cX5_close 20 = .ok (.iload_n 1, 1) := by decide +kernel
theorem dX5_close_21 : decode cX5_close 21 = .ok (.invokevirtual 99, 3) := by decide +kernel
theorem dX5_close_24 : decode cX5_close 24 = .ok (.ifCond .eq 13, 3) := by decide +kernel
theorem dX5_close_27 : decode cX5_close 27 = .ok (.new 48, 3) := by decide +kernel
theorem dX5_close_30 : decode cX5_close 30 = .ok (.dup, 1) := by decide +kernel
theorem dX5_close_31 : decode cX5_close 31 = .ok (.ldc 127, 2) := by decide +kernel
theorem dX5_close_33 : decode cX5_close 33 = .ok (.invokespecial 52, 3) := by decide +kernel
theorem dX5_close_36 : decode cX5_close 36 = .ok (.athrow, 1) := by decide +kernel
theorem dX5_close_37 : decode cX5_close 37 = .ok (.aload_n 0, 1) := by decide +kernel
theorem dX5_close_38 : decode cX5_close 38 = .ok (.getfield 22, 3) := by decide +kernel
theorem dX5_close_41 : decode cX5_close 41 = .ok (.aload_n 0, 1) := by decide +kernel
theorem dX5_close_42 : decode cX5_close 42 = .ok (.getfield 12, 3) := by decide +kernel
theorem dX5_close_45 : decode cX5_close 45 = .ok (.invokevirtual 53, 3) := by decide +kernel
theorem dX5_close_48 : decode cX5_close 48 = .ok (.aload_n 0, 1) := by decide +kernel
theorem dX5_close_49 : decode cX5_close 49 = .ok (.getfield 12, 3) := by decide +kernel
theorem dX5_close_52 : decode cX5_close 52 = .ok (.iload_n 1, 1) := by decide +kernel
theorem dX5_close_53 : decode cX5_close 53 = .ok (.invokevirtual 129, 3) := by decide +kernel
theorem dX5_close_56 : decode cX5_close 56 = .ok (.ireturn, 1) := by decide +kernel
theorem dX5_append_0 : decode cX5_append 0 = .ok (.iload_n 1, 1) := by decide +kernel
theorem dX5_append_1 : decode cX5_append 1 = .ok (.bipush 33, 2) := by decide +kernel
theorem dX5_append_3 : decode cX5_append 3 = .ok (.bipush 126, 2) := by decide +kernel
theorem dX5_append_5 : decode cX5_append 5 = .ok (.invokestatic 33, 3) := by decide +kernel
theorem dX5_append_8 : decode cX5_append 8 = .ok (.ifCond .eq 13, 3) := by decide +kernel
theorem dX5_append_11 : decode cX5_append 11 = .ok (.new 37, 3) := by decide +kernel
theorem dX5_append_14 : decode cX5_append 14 = .ok (.dup, 1) := by decide +kernel
theorem dX5_append_15 : decode cX5_append 15 = .ok (.ldc 132, 2) := by decide +kernel
theorem dX5_append_17 : decode cX5_append 17 = .ok (.invokespecial 41, 3) := by decide +kernel
theorem dX5_append_20 : decode cX5_append 20 = .ok (.athrow, 1) := by decide +kernel
theorem dX5_append_21 : decode cX5_append 21 = .ok (.aload_n 0, 1) := by decide +kernel
theorem dX5_append_22 : decode cX5_append 22 = .ok (.getfield 29, 3) := by decide +kernel
theorem dX5_append_25 : decode cX5_append 25 = .ok (.invokevirtual 134, 3) := by decide +kernel
theorem dX5_append_28 : decode cX5_append 28 = .ok (.bipush 60, 2) := by decide +kernel
theorem dX5_append_30 : decode cX5_append 30 = .ok (.if_icmp .lt 13, 3) := by decide +kernel
theorem dX5_append_33 : decode cX5_append 33 = .ok (.new 48, 3) := by decide +kernel
theorem dX5_append_36 : decode cX5_append 36 = .ok (.dup, 1) := by decide +kernel
theorem dX5_append_37 : decode cX5_append 37 = .ok (.ldc 137, 2) := by decide +kernel
theorem dX5_append_39 : decode cX5_append 39 = .ok (.invokespecial 52, 3) := by decide +kernel
theorem dX5_append_42 : decode cX5_append 42 = .ok (.athrow, 1) := by decide +kernel
theorem dX5_append_43 : decode cX5_append 43 = .ok (.aload_n 0, 1) := by decide +kernel
theorem dX5_append_44 : decode cX5_append 44 = .ok (.getfield 29, 3) := by decide +kernel
theorem dX5_append_47 : decode cX5_append 47 = .ok (.iload_n 1, 1) := by decide +kernel
theorem dX5_append_48 : decode cX5_append 48 = .ok (.invokevirtual 139, 3) := by decide +kernel
theorem dX5_append_51 : decode cX5_append 51 = .ok (.aload_n 0, 1) := by decide +kernel
theorem dX5_append_52 : decode cX5_append 52 = .ok (.getfield 29, 3) := by decide +kernel
theorem dX5_append_55 : decode cX5_append 55 = .ok (.invokevirtual 134, 3) := by decide +kernel
theorem dX5_append_58 : decode cX5_append 58 = .ok (.ireturn, 1) := by decide +kernel
theorem dX5_clearBuffer_0 : decode cX5_clearBuffer 0 = .ok (.aload_n 0, 1) := by decide +kernel
theorem dX5_clearBuffer_1 : decode cX5_clearBuffer 1 = .ok (.getfield 29, 3) := by decide +kernel
theorem dX5_clearBuffer_4 : decode cX5_clearBuffer 4 = .ok (.invokevirtual 134, 3) := by decide +kernel
theorem dX5_clearBuffer_7 : decode cX5_clearBuffer 7 = .ok (.istore_n 1, 1) := by decide +kernel
theorem dX5_clearBuffer_8 : decode cX5_clearBuffer 8 = .ok (.aload_n 0, 1) := by decide +kernel
theorem dX5_clearBuffer_9 : decode cX5_clearBuffer 9 = .ok (.getfield 29, 3) := by decide +kernel
theorem dX5_clearBuffer_12 : decode cX5_clearBuffer 12 = .ok (.invokevirtual 142, 3) := by decide +kernel
theorem dX5_clearBuffer_15 : decode cX5_clearBuffer 15 = .ok (.iload_n 1, 1) := by decide +kernel
theorem dX5_clearBuffer_16 : decode cX5_clearBuffer 16 = .ok (.ireturn, 1) := by decide +kernel
theorem dX5_firstError_0 : decode cX5_firstError 0 = .ok (.aload_n 0, 1) := by decide +kernel
theorem dX5_firstError_1 : decode cX5_firstError 1 = .ok (.getfield 29, 3) := by decide +kernel
theorem dX5_firstError_4 : decode cX5_firstError 4 = .ok (.invokevirtual 145, 3) := by decide +kernel
theorem dX5_firstError_7 : decode cX5_firstError 7 = .ok (.ireturn, 1) := by decide +kernel
theorem dX5_openAll_0 : decode cX5_openAll 0 = .ok (.aload_n 0, 1) := by decide +kernel
theorem dX5_openAll_1 : decode cX5_openAll 1 = .ok (.getfield 29, 3) := by decide +kernel
theorem dX5_openAll_4 : decode cX5_openAll 4 = .ok (.invokevirtual 148, 3) := by decide +kernel
theorem dX5_openAll_7 : decode cX5_openAll 7 = .ok (.ifCond .ne 13, 3) := by decide +kernel
theorem dX5_openAll_10 : decode cX5_openAll 10 = .ok (.new 37, 3) := by decide +kernel
theorem dX5_openAll_13 : decode cX5_openAll 13 = .ok (.dup, 1) := by decide +kernel
theorem dX5_openAll_14 : decode cX5_openAll 14 = .ok (.ldc 152, 2) := by decide +kernel
theorem dX5_openAll_16 : decode cX5_openAll 16 = .ok (.invokespecial 41, 3) := by decide +kernel
theorem dX5_openAll_19 : decode cX5_openAll 19 = .ok (.athrow, 1) := by decide +kernel
theorem dX5_openAll_20 : decode cX5_openAll 20 = .ok (.aload_n 0, 1) := by decide +kernel
theorem dX5_openAll_21 : decode cX5_openAll 21 = .ok (.getfield 12, 3) := by decide +kernel
theorem dX5_openAll_24 : decode cX5_openAll 24 = .ok (.invokevirtual 44, 3) := by decide +kernel
theorem dX5_openAll_27 : decode cX5_openAll 27 = .ok (.aload_n 0, 1) := by decide +kernel
theorem dX5_openAll_28 : decode cX5_openAll 28 = .ok (.getfield 29, 3) := by decide +kernel
theorem dX5_openAll_31 : decode cX5_openAll 31 = .ok (.invokevirtual 154, 3) := by decide +kernel
theorem dX5_openAll_34 : decode cX5_openAll 34 = .ok (.iadd, 1) := by decide +kernel
theorem dX5_openAll_35 : decode cX5_openAll 35 = .ok (.bipush 6, 2) := by decide +kernel
theorem dX5_openAll_37 : decode cX5_openAll 37 = .ok (.if_icmp .le 13, 3) := by decide +kernel
theorem dX5_openAll_40 : decode cX5_openAll 40 = .ok (.new 48, 3) := by decide +kernel
theorem dX5_openAll_43 : decode cX5_openAll 43 = .ok (.dup, 1) := by decide +kernel
theorem dX5_openAll_44 : decode cX5_openAll 44 = .ok (.ldc 50, 2) := by decide +kernel
theorem dX5_openAll_46 : decode cX5_openAll 46 = .ok (.invokespecial 52, 3) := by decide +kernel
theorem dX5_openAll_49 : decode cX5_openAll 49 = .ok (.athrow, 1) := by decide +kernel
theorem dX5_openAll_50 : decode cX5_openAll 50 = .ok (.aload_n 0, 1) := by decide +kernel
theorem dX5_openAll_51 : decode cX5_openAll 51 = .ok (.getfield 22, 3) := by decide +kernel
theorem dX5_openAll_54 : decode cX5_openAll 54 = .ok (.aload_n 0, 1) := by decide +kernel
theorem dX5_openAll_55 : decode cX5_openAll 55 = .ok (.getfield 12, 3) := by decide +kernel
theorem dX5_openAll_58 : decode cX5_openAll 58 = .ok (.invokevirtual 53, 3) := by decide +kernel
theorem dX5_openAll_61 : decode cX5_openAll 61 = .ok (.aload_n 0, 1) := by decide +kernel
theorem dX5_openAll_62 : decode cX5_openAll 62 = .ok (.invokevirtual 157, 3) := by decide +kernel
theorem dX5_openAll_65 : decode cX5_openAll 65 = .ok (.aload_n 0, 1) := by decide +kernel
theorem dX5_openAll_66 : decode cX5_openAll 66 = .ok (.getfield 29, 3) := by decide +kernel
theorem dX5_openAll_69 : decode cX5_openAll 69 = .ok (.invokevirtual 142, 3) := by decide +kernel
theorem dX5_openAll_72 : decode cX5_openAll 72 = .ok (.aload_n 0, 1) := by decide +kernel
theorem dX5_openAll_73 : decode cX5_openAll 73 = .ok (.getfield 12, 3) := by decide +kernel
theorem dX5_openAll_76 : decode cX5_openAll 76 = .ok (.invokevirtual 44, 3) := by decide +kernel
theorem dX5_openAll_79 : decode cX5_openAll 79 = .ok (.ireturn, 1) := by decide +kernel
theorem dX5_undo_0 : decode cX5_undo 0 = .ok (.aload_n 0, 1) := by decide +kernel
theorem dX5_undo_1 : decode cX5_undo 1 = .ok (.getfield 22, 3) := by decide +kernel
theorem dX5_undo_4 : decode cX5_undo 4 = .ok (.invokevirtual 160, 3) := by decide +kernel
theorem dX5_undo_7 : decode cX5_undo 7 = .ok (.ifCond .ne 13, 3) := by decide +kernel
theorem dX5_undo_10 : decode cX5_undo 10 = .ok (.new 48, 3) := by decide +kernel
theorem dX5_undo_13 : decode cX5_undo 13 = .ok (.dup, 1) := by decide +kernel
theorem dX5_undo_14 : decode cX5_undo 14 = .ok (.ldc 163, 2) := by decide +kernel
theorem dX5_undo_16 : decode cX5_undo 16 = .ok (.invokespecial 52, 3) := by decide +kernel
theorem dX5_undo_19 : decode cX5_undo 19 = .ok (.athrow, 1) := by decide +kernel
theorem dX5_undo_20 : decode cX5_undo 20 = .ok (.aload_n 0, 1) := by decide +kernel
theorem dX5_undo_21 : decode cX5_undo 21 = .ok (.getfield 22, 3) := by decide +kernel
theorem dX5_undo_24 : decode cX5_undo 24 = .ok (.aload_n 0, 1) := by decide +kernel
theorem dX5_undo_25 : decode cX5_undo 25 = .ok (.getfield 12, 3) := by decide +kernel
theorem dX5_undo_28 : decode cX5_undo 28 = .ok (.invokevirtual 165, 3) := by decide +kernel
theorem dX5_undo_31 : decode cX5_undo 31 = .ok (.aload_n 0, 1) := by decide +kernel
theorem dX5_undo_32 : decode cX5_undo 32 = .ok (.getfield 22, 3) := by decide +kernel
theorem dX5_undo_35 : decode cX5_undo 35 = .ok (.invokevirtual 160, 3) := by decide +kernel
theorem dX5_undo_38 : decode cX5_undo 38 = .ok (.ireturn, 1) := by decide +kernel
theorem dX5_project_0 : decode cX5_project 0 = .ok (.aload_n 0, 1) := by decide +kernel
theorem dX5_project_1 : decode cX5_project 1 = .ok (.iload_n 1, 1) := by decide +kernel
theorem dX5_project_2 : decode cX5_project 2 = .ok (.invokevirtual 61, 3) := by decide +kernel
theorem dX5_project_5 : decode cX5_project 5 = .ok (.iload_n 2, 1) := by decide +kernel
theorem dX5_project_6 : decode cX5_project 6 = .ok (.iconst 0, 1) := by decide +kernel
theorem dX5_project_7 : decode cX5_project 7 = .ok (.bipush 14, 2) := by decide +kernel
theorem dX5_project_9 : decode cX5_project 9 = .ok (.invokestatic 33, 3) := by decide +kernel
theorem dX5_project_12 : decode cX5_project 12 = .ok (.ifCond .eq 13, 3) := by decide +kernel
theorem dX5_project_15 : decode cX5_project 15 = .ok (.new 37, 3) := by decide +kernel
theorem dX5_project_18 : decode cX5_project 18 = .ok (.dup, 1) := by decide +kernel
theorem dX5_project_19 : decode cX5_project 19 = .ok (.ldc 168, 2) := by decide +kernel
theorem dX5_project_21 : decode cX5_project 21 = .ok (.invokespecial 41, 3) := by decide +kernel
theorem dX5_project_24 : decode cX5_project 24 = .ok (.athrow, 1) := by decide +kernel
theorem dX5_project_25 : decode cX5_project 25 = .ok (.aload_n 0, 1) := by decide +kernel
theorem dX5_project_26 : decode cX5_project 26 = .ok (.getfield 12, 3) := by decide +kernel
theorem dX5_project_29 : decode cX5_project 29 = .ok (.iload_n 1, 1) := by decide +kernel
theorem dX5_project_30 : decode cX5_project 30 = .ok (.iload_n 2, 1) := by decide +kernel
theorem dX5_project_31 : decode cX5_project 31 = .ok (.invokevirtual 71, 3) := by decide +kernel
theorem dX5_project_34 : decode cX5_project 34 = .ok (.ireturn, 1) := by decide +kernel
theorem dX5_task_0 : decode cX5_task 0 = .ok (.aload_n 0, 1) := by decide +kernel
theorem dX5_task_1 : decode cX5_task 1 = .ok (.iload_n 1, 1) := by decide +kernel
theorem dX5_task_2 : decode cX5_task 2 = .ok (.invokevirtual 61, 3) := by decide +kernel
theorem dX5_task_5 : decode cX5_task 5 = .ok (.iload_n 2, 1) := by decide +kernel
theorem dX5_task_6 : decode cX5_task 6 = .ok (.iconst 0, 1) := by decide +kernel
theorem dX5_task_7 : decode cX5_task 7 = .ok (.aload_n 0, 1) := by decide +kernel
theorem dX5_task_8 : decode cX5_task 8 = .ok (.getfield 12, 3) := by decide +kernel
theorem dX5_task_11 : decode cX5_task 11 = .ok (.iload_n 1, 1) := by decide +kernel
theorem dX5_task_12 : decode cX5_task 12 = .ok (.bipush 7, 2) := by decide +kernel
theorem dX5_task_14 : decode cX5_task 14 = .ok (.invokevirtual 71, 3) := by decide +kernel
theorem dX5_task_17 : decode cX5_task 17 = .ok (.iconst 1, 1) := by decide +kernel
theorem dX5_task_18 : decode cX5_task 18 = .ok (.isub, 1) := by decide +kernel
theorem dX5_task_19 : decode cX5_task 19 = .ok (.invokestatic 33, 3) := by decide +kernel
theorem dX5_task_22 : decode cX5_task 22 = .ok (.ifCond .eq 13, 3) := by decide +kernel
theorem dX5_task_25 : decode cX5_task 25 = .ok (.new 170, 3) := by decide +kernel
theorem dX5_task_28 : decode cX5_task 28 = .ok (.dup, 1) := by decide +kernel
theorem dX5_task_29 : decode cX5_task 29 = .ok (.ldc 172, 2) := by decide +kernel
theorem dX5_task_31 : decode cX5_task 31 = .ok (.invokespecial 174, 3) := by decide +kernel
theorem dX5_task_34 : decode cX5_task 34 = .ok (.athrow, 1) := by decide +kernel
theorem dX5_task_35 : decode cX5_task 35 = .ok (.iload_n 3, 1) := by decide +kernel
theorem dX5_task_36 : decode cX5_task 36 = .ok (.iconst 0, 1) := by decide +kernel
theorem dX5_task_37 : decode cX5_task 37 = .ok (.iconst 5, 1) := by decide +kernel
theorem dX5_task_38 : decode cX5_task 38 = .ok (.invokestatic 33, 3) := by decide +kernel
theorem dX5_task_41 : decode cX5_task 41 = .ok (.ifCond .eq 13, 3) := by decide +kernel
theorem dX5_task_44 : decode cX5_task 44 = .ok (.new 37, 3) := by decide +kernel
theorem dX5_task_47 : decode cX5_task 47 = .ok (.dup, 1) := by decide +kernel
theorem dX5_task_48 : decode cX5_task 48 = .ok (.ldc 168, 2) := by decide +kernel
theorem dX5_task_50 : decode cX5_task 50 = .ok (.invokespecial 41, 3) := by decide +kernel
theorem dX5_task_53 : decode cX5_task 53 = .ok (.athrow, 1) := by decide +kernel
theorem dX5_task_54 : decode cX5_task 54 = .ok (.aload_n 0, 1) := by decide +kernel
theorem dX5_task_55 : decode cX5_task 55 = .ok (.getfield 12, 3) := by decide +kernel
theorem dX5_task_58 : decode cX5_task 58 = .ok (.iload_n 1, 1) := by decide +kernel
theorem dX5_task_59 : decode cX5_task 59 = .ok (.iload_n 2, 1) := by decide +kernel
theorem dX5_task_60 : decode cX5_task 60 = .ok (.iload_n 3, 1) := by decide +kernel
theorem dX5_task_61 : decode cX5_task 61 = .ok (.invokevirtual 175, 3) := by decide +kernel
theorem dX5_task_64 : decode cX5_task 64 = .ok (.ireturn, 1) := by decide +kernel
theorem dX5_loan_0 : decode cX5_loan 0 = .ok (.iload_n 1, 1) := by decide +kernel
theorem dX5_loan_1 : decode cX5_loan 1 = .ok (.iconst 0, 1) := by decide +kernel
theorem dX5_loan_2 : decode cX5_loan 2 = .ok (.aload_n 0, 1) := by decide +kernel
theorem dX5_loan_3 : decode cX5_loan 3 = .ok (.getfield 12, 3) := by decide +kernel
theorem dX5_loan_6 : decode cX5_loan 6 = .ok (.invokevirtual 179, 3) := by decide +kernel
theorem dX5_loan_9 : decode cX5_loan 9 = .ok (.iconst 1, 1) := by decide +kernel
theorem dX5_loan_10 : decode cX5_loan 10 = .ok (.isub, 1) := by decide +kernel
theorem dX5_loan_11 : decode cX5_loan 11 = .ok (.invokestatic 33, 3) := by decide +kernel
theorem dX5_loan_14 : decode cX5_loan 14 = .ok (.ifCond .eq 13, 3) := by decide +kernel
theorem dX5_loan_17 : decode cX5_loan 17 = .ok (.new 170, 3) := by decide +kernel
theorem dX5_loan_20 : decode cX5_loan 20 = .ok (.dup, 1) := by decide +kernel
theorem dX5_loan_21 : decode cX5_loan 21 = .ok (.ldc 182, 2) := by decide +kernel
theorem dX5_loan_23 : decode cX5_loan 23 = .ok (.invokespecial 174, 3) := by decide +kernel
theorem dX5_loan_26 : decode cX5_loan 26 = .ok (.athrow, 1) := by decide +kernel
theorem dX5_loan_27 : decode cX5_loan 27 = .ok (.iload_n 2, 1) := by decide +kernel
theorem dX5_loan_28 : decode cX5_loan 28 = .ok (.iconst 0, 1) := by decide +kernel
theorem dX5_loan_29 : decode cX5_loan 29 = .ok (.iconst 2, 1) := by decide +kernel
theorem dX5_loan_30 : decode cX5_loan 30 = .ok (.invokestatic 33, 3) := by decide +kernel
theorem dX5_loan_33 : decode cX5_loan 33 = .ok (.ifCond .eq 13, 3) := by decide +kernel
theorem dX5_loan_36 : decode cX5_loan 36 = .ok (.new 37, 3) := by decide +kernel
theorem dX5_loan_39 : decode cX5_loan 39 = .ok (.dup, 1) := by decide +kernel
theorem dX5_loan_40 : decode cX5_loan 40 = .ok (.ldc 184, 2) := by decide +kernel
theorem dX5_loan_42 : decode cX5_loan 42 = .ok (.invokespecial 41, 3) := by decide +kernel
theorem dX5_loan_45 : decode cX5_loan 45 = .ok (.athrow, 1) := by decide +kernel
theorem dX5_loan_46 : decode cX5_loan 46 = .ok (.aload_n 0, 1) := by decide +kernel
theorem dX5_loan_47 : decode cX5_loan 47 = .ok (.getfield 12, 3) := by decide +kernel
theorem dX5_loan_50 : decode cX5_loan 50 = .ok (.iload_n 1, 1) := by decide +kernel
theorem dX5_loan_51 : decode cX5_loan 51 = .ok (.iload_n 2, 1) := by decide +kernel
theorem dX5_loan_52 : decode cX5_loan 52 = .ok (.invokevirtual 186, 3) := by decide +kernel
theorem dX5_loan_55 : decode cX5_loan 55 = .ok (.ireturn, 1) := by decide +kernel
theorem dX5_owed_0 : decode cX5_owed 0 = .ok (.aload_n 0, 1) := by decide +kernel
theorem dX5_owed_1 : decode cX5_owed 1 = .ok (.iload_n 1, 1) := by decide +kernel
theorem dX5_owed_2 : decode cX5_owed 2 = .ok (.invokevirtual 61, 3) := by decide +kernel
theorem dX5_owed_5 : decode cX5_owed 5 = .ok (.aload_n 0, 1) := by decide +kernel
theorem dX5_owed_6 : decode cX5_owed 6 = .ok (.iload_n 2, 1) := by decide +kernel
theorem dX5_owed_7 : decode cX5_owed 7 = .ok (.invokevirtual 61, 3) := by decide +kernel
theorem dX5_owed_10 : decode cX5_owed 10 = .ok (.aload_n 0, 1) := by decide +kernel
theorem dX5_owed_11 : decode cX5_owed 11 = .ok (.getfield 12, 3) := by decide +kernel
theorem dX5_owed_14 : decode cX5_owed 14 = .ok (.iload_n 1, 1) := by decide +kernel
theorem dX5_owed_15 : decode cX5_owed 15 = .ok (.iload_n 2, 1) := by decide +kernel
theorem dX5_owed_16 : decode cX5_owed 16 = .ok (.invokevirtual 115, 3) := by decide +kernel
theorem dX5_owed_19 : decode cX5_owed 19 = .ok (.ireturn, 1) := by decide +kernel
theorem dX5_lender_0 : decode cX5_lender 0 = .ok (.aload_n 0, 1) := by decide +kernel
theorem dX5_lender_1 : decode cX5_lender 1 = .ok (.iload_n 1, 1) := by decide +kernel
theorem dX5_lender_2 : decode cX5_lender 2 = .ok (.invokevirtual 61, 3) := by decide +kernel
theorem dX5_lender_5 : decode cX5_lender 5 = .ok (.iload_n 2, 1) := by decide +kernel
theorem dX5_lender_6 : decode cX5_lender 6 = .ok (.iconst 0, 1) := by decide +kernel
theorem dX5_lender_7 : decode cX5_lender 7 = .ok (.iconst 4, 1) := by decide +kernel
theorem dX5_lender_8 : decode cX5_lender 8 = .ok (.invokestatic 33, 3) := by decide +kernel
theorem dX5_lender_11 : decode cX5_lender 11 = .ok (.ifCond .eq 13, 3) := by decide +kernel
theorem dX5_lender_14 : decode cX5_lender 14 = .ok (.new 37, 3) := by decide +kernel
theorem dX5_lender_17 : decode cX5_lender 17 = .ok (.dup, 1) := by decide +kernel
theorem dX5_lender_18 : decode cX5_lender 18 = .ok (.ldc 189, 2) := by decide +kernel
theorem dX5_lender_20 : decode cX5_lender 20 = .ok (.invokespecial 41, 3) := by decide +kernel
theorem dX5_lender_23 : decode cX5_lender 23 = .ok (.athrow, 1) := by decide +kernel
theorem dX5_lender_24 : decode cX5_lender 24 = .ok (.aload_n 0, 1) := by decide +kernel
theorem dX5_lender_25 : decode cX5_lender 25 = .ok (.getfield 12, 3) := by decide +kernel
theorem dX5_lender_28 : decode cX5_lender 28 = .ok (.iload_n 1, 1) := by decide +kernel
theorem dX5_lender_29 : decode cX5_lender 29 = .ok (.iload_n 2, 1) := by decide +kernel
theorem dX5_lender_30 : decode cX5_lender 30 = .ok (.invokevirtual 191, 3) := by decide +kernel
theorem dX5_lender_33 : decode cX5_lender 33 = .ok (.ireturn, 1) := by decide +kernel
theorem dX5_count_0 : decode cX5_count 0 = .ok (.iload_n 1, 1) := by decide +kernel
theorem dX5_count_1 : decode cX5_count 1 = .ok (.iconst 0, 1) := by decide +kernel
theorem dX5_count_2 : decode cX5_count 2 = .ok (.bipush 9, 2) := by decide +kernel
theorem dX5_count_4 : decode cX5_count 4 = .ok (.invokestatic 33, 3) := by decide +kernel
theorem dX5_count_7 : decode cX5_count 7 = .ok (.ifCond .eq 13, 3) := by decide +kernel
theorem dX5_count_10 : decode cX5_count 10 = .ok (.new 37, 3) := by decide +kernel
theorem dX5_count_13 : decode cX5_count 13 = .ok (.dup, 1) := by decide +kernel
theorem dX5_count_14 : decode cX5_count 14 = .ok (.ldc 194, 2) := by decide +kernel
theorem dX5_count_16 : decode cX5_count 16 = .ok (.invokespecial 41, 3) := by decide +kernel
theorem dX5_count_19 : decode cX5_count 19 = .ok (.athrow, 1) := by decide +kernel
theorem dX5_count_20 : decode cX5_count 20 = .ok (.aload_n 0, 1) := by decide +kernel
theorem dX5_count_21 : decode cX5_count 21 = .ok (.iload_n 1, 1) := by decide +kernel
theorem dX5_count_22 : decode cX5_count 22 = .ok (.invokevirtual 196, 3) := by decide +kernel
theorem dX5_count_25 : decode cX5_count 25 = .ok (.ireturn, 1) := by decide +kernel
theorem dX5_setting_0 : decode cX5_setting 0 = .ok (.iload_n 1, 1) := by decide +kernel
theorem dX5_setting_1 : decode cX5_setting 1 = .ok (.invokestatic 84, 3) := by decide +kernel
theorem dX5_setting_4 : decode cX5_setting 4 = .ok (.aload_n 0, 1) := by decide +kernel
theorem dX5_setting_5 : decode cX5_setting 5 = .ok (.getfield 12, 3) := by decide +kernel
theorem dX5_setting_8 : decode cX5_setting 8 = .ok (.iload_n 1, 1) := by decide +kernel
theorem dX5_setting_9 : decode cX5_setting 9 = .ok (.invokevirtual 199, 3) := by decide +kernel
theorem dX5_setting_12 : decode cX5_setting 12 = .ok (.ireturn, 1) := by decide +kernel
theorem dX5_ifDone_0 : decode cX5_ifDone 0 = .ok (.aload_n 0, 1) := by decide +kernel
theorem dX5_ifDone_1 : decode cX5_ifDone 1 = .ok (.iload_n 1, 1) := by decide +kernel
theorem dX5_ifDone_2 : decode cX5_ifDone 2 = .ok (.invokevirtual 61, 3) := by decide +kernel
theorem dX5_ifDone_5 : decode cX5_ifDone 5 = .ok (.iload_n 2, 1) := by decide +kernel
theorem dX5_ifDone_6 : decode cX5_ifDone 6 = .ok (.invokestatic 96, 3) := by decide +kernel
theorem dX5_ifDone_9 : decode cX5_ifDone 9 = .ok (.iload_n 3, 1) := by decide +kernel
theorem dX5_ifDone_10 : decode cX5_ifDone 10 = .ok (.iconst 0, 1) := by decide +kernel
theorem dX5_ifDone_11 : decode cX5_ifDone 11 = .ok (.iconst 4, 1) := by decide +kernel
theorem dX5_ifDone_12 : decode cX5_ifDone 12 = .ok (.invokestatic 33, 3) := by decide +kernel
theorem dX5_ifDone_15 : decode cX5_ifDone 15 = .ok (.ifCond .eq 13, 3) := by decide +kernel
theorem dX5_ifDone_18 : decode cX5_ifDone 18 = .ok (.new 37, 3) := by decide +kernel
theorem dX5_ifDone_21 : decode cX5_ifDone 21 = .ok (.dup, 1) := by decide +kernel
theorem dX5_ifDone_22 : decode cX5_ifDone 22 = .ok (.ldc 202, 2) := by decide +kernel
theorem dX5_ifDone_24 : decode cX5_ifDone 24 = .ok (.invokespecial 41, 3) := by decide +kernel
theorem dX5_ifDone_27 : decode cX5_ifDone 27 = .ok (.athrow, 1) := by decide +kernel
theorem dX5_ifDone_28 : decode cX5_ifDone 28 = .ok (.aload_n 0, 1) := by decide +kernel
theorem dX5_ifDone_29 : decode cX5_ifDone 29 = .ok (.iload_n 1, 1) := by decide +kernel
theorem dX5_ifDone_30 : decode cX5_ifDone 30 = .ok (.iload_n 2, 1) := by decide +kernel
theorem dX5_ifDone_31 : decode cX5_ifDone 31 = .ok (.invokevirtual 204, 3) := by decide +kernel
theorem dX5_ifDone_34 : decode cX5_ifDone 34 = .ok (.ifCond .eq 12, 3) := by decide +kernel
theorem dX5_ifDone_37 : decode cX5_ifDone 37 = .ok (.aload_n 0, 1) := by decide +kernel
theorem dX5_ifDone_38 : decode cX5_ifDone 38 = .ok (.iload_n 1, 1) := by decide +kernel
theorem dX5_ifDone_39 : decode cX5_ifDone 39 = .ok (.iload_n 3, 1) := by decide +kernel
theorem dX5_ifDone_40 : decode cX5_ifDone 40 = .ok (.invokevirtual 208, 3) := by decide +kernel
theorem dX5_ifDone_43 : decode cX5_ifDone 43 = .ok (.goto 4, 3) := by decide +kernel
theorem dX5_ifDone_46 : decode cX5_ifDone 46 = .ok (.iconst (-1), 1) := by decide +kernel
theorem dX5_ifDone_47 : decode cX5_ifDone 47 = .ok (.ireturn, 1) := by decide +kernel
theorem dX5_bears_0 : decode cX5_bears 0 = .ok (.aload_n 0, 1) := by decide +kernel
theorem dX5_bears_1 : decode cX5_bears 1 = .ok (.iload_n 1, 1) := by decide +kernel
theorem dX5_bears_2 : decode cX5_bears 2 = .ok (.invokevirtual 61, 3) := by decide +kernel
theorem dX5_bears_5 : decode cX5_bears 5 = .ok (.aload_n 0, 1) := by decide +kernel
theorem dX5_bears_6 : decode cX5_bears 6 = .ok (.getfield 12, 3) := by decide +kernel
theorem dX5_bears_9 : decode cX5_bears 9 = .ok (.iload_n 1, 1) := by decide +kernel
theorem dX5_bears_10 : decode cX5_bears 10 = .ok (.invokevirtual 211, 3) := by decide +kernel
theorem dX5_bears_13 : decode cX5_bears 13 = .ok (.ireturn, 1) := by decide +kernel
theorem dX5_weakest_0 : decode cX5_weakest 0 = .ok (.aload_n 0, 1) := by decide +kernel
theorem dX5_weakest_1 : decode cX5_weakest 1 = .ok (.getfield 12, 3) := by decide +kernel
theorem dX5_weakest_4 : decode cX5_weakest 4 = .ok (.invokevirtual 214, 3) := by decide +kernel
theorem dX5_weakest_7 : decode cX5_weakest 7 = .ok (.ireturn, 1) := by decide +kernel
theorem dX5_bestRule_0 : decode cX5_bestRule 0 = .ok (.aload_n 0, 1) := by decide +kernel
theorem dX5_bestRule_1 : decode cX5_bestRule 1 = .ok (.iload_n 1, 1) := by decide +kernel
theorem dX5_bestRule_2 : decode cX5_bestRule 2 = .ok (.invokevirtual 61, 3) := by decide +kernel
theorem dX5_bestRule_5 : decode cX5_bestRule 5 = .ok (.iload_n 2, 1) := by decide +kernel
theorem dX5_bestRule_6 : decode cX5_bestRule 6 = .ok (.invokestatic 96, 3) := by decide +kernel
theorem dX5_bestRule_9 : decode cX5_bestRule 9 = .ok (.aload_n 0, 1) := by decide +kernel
theorem dX5_bestRule_10 : decode cX5_bestRule 10 = .ok (.iload_n 1, 1) := by decide +kernel
theorem dX5_bestRule_11 : decode cX5_bestRule 11 = .ok (.iload_n 2, 1) := by decide +kernel
theorem dX5_bestRule_12 : decode cX5_bestRule 12 = .ok (.invokevirtual 217, 3) := by decide +kernel
theorem dX5_bestRule_15 : decode cX5_bestRule 15 = .ok (.ireturn, 1) := by decide +kernel
theorem dX5_lateShare_0 : decode cX5_lateShare 0 = .ok (.aload_n 0, 1) := by decide +kernel
theorem dX5_lateShare_1 : decode cX5_lateShare 1 = .ok (.getfield 12, 3) := by decide +kernel
theorem dX5_lateShare_4 : decode cX5_lateShare 4 = .ok (.invokevirtual 220, 3) := by decide +kernel
theorem dX5_lateShare_7 : decode cX5_lateShare 7 = .ok (.istore_n 1, 1) := by decide +kernel
theorem dX5_lateShare_8 : decode cX5_lateShare 8 = .ok (.iload_n 1, 1) := by decide +kernel
theorem dX5_lateShare_9 : decode cX5_lateShare 9 = .ok (.ifCond .ne 7, 3) := by decide +kernel
theorem dX5_lateShare_12 : decode cX5_lateShare 12 = .ok (.dconst 0, 1) := by decide +kernel
theorem dX5_lateShare_13 : decode cX5_lateShare 13 = .ok (.goto 16, 3) := by decide +kernel
theorem dX5_lateShare_16 : decode cX5_lateShare 16 = .ok (.aload_n 0, 1) := by decide +kernel
theorem dX5_lateShare_17 : decode cX5_lateShare 17 = .ok (.getfield 12, 3) := by decide +kernel
theorem dX5_lateShare_20 : decode cX5_lateShare 20 = .ok (.bipush 6, 2) := by decide +kernel
theorem dX5_lateShare_22 : decode cX5_lateShare 22 = .ok (.invokevirtual 223, 3) := by decide +kernel
theorem dX5_lateShare_25 : decode cX5_lateShare 25 = .ok (.i2d, 1) := by decide +kernel
theorem dX5_lateShare_26 : decode cX5_lateShare 26 = .ok (.iload_n 1, 1) := by decide +kernel
theorem dX5_lateShare_27 : decode cX5_lateShare 27 = .ok (.i2d, 1) := by decide +kernel
theorem dX5_lateShare_28 : decode cX5_lateShare 28 = .ok (.ddiv, 1) := by decide +kernel
theorem dX5_lateShare_29 : decode cX5_lateShare 29 = .ok (.dreturn, 1) := by decide +kernel
theorem dX5_digest_0 : decode cX5_digest 0 = .ok (.ldc2_w 226, 3) := by decide +kernel
theorem dX5_digest_3 : decode cX5_digest 3 = .ok (.lstore_n 1, 1) := by decide +kernel
theorem dX5_digest_4 : decode cX5_digest 4 = .ok (.iconst 0, 1) := by decide +kernel
theorem dX5_digest_5 : decode cX5_digest 5 = .ok (.istore_n 3, 1) := by decide +kernel
theorem dX5_digest_6 : decode cX5_digest 6 = .ok (.iload_n 3, 1) := by decide +kernel
theorem dX5_digest_7 : decode cX5_digest 7 = .ok (.bipush 9, 2) := by decide +kernel
theorem dX5_digest_9 : decode cX5_digest 9 = .ok (.if_icmp .gt 20, 3) := by decide +kernel
theorem dX5_digest_12 : decode cX5_digest 12 = .ok (.lload_n 1, 1) := by decide +kernel
theorem dX5_digest_13 : decode cX5_digest 13 = .ok (.aload_n 0, 1) := by decide +kernel
theorem dX5_digest_14 : decode cX5_digest 14 = .ok (.iload_n 3, 1) := by decide +kernel
theorem dX5_digest_15 : decode cX5_digest 15 = .ok (.invokevirtual 196, 3) := by decide +kernel
theorem dX5_digest_18 : decode cX5_digest 18 = .ok (.i2l, 1) := by decide +kernel
theorem dX5_digest_19 : decode cX5_digest 19 = .ok (.invokestatic 228, 3) := by decide +kernel
theorem dX5_digest_22 : decode cX5_digest 22 = .ok (.lstore_n 1, 1) := by decide +kernel
theorem dX5_digest_23 : decode cX5_digest 23 = .ok (.iinc 3 1, 3) := by decide +kernel
theorem dX5_digest_26 : decode cX5_digest 26 = .ok (.goto (-20), 3) := by decide +kernel
theorem dX5_digest_29 : decode cX5_digest 29 = .ok (.iconst 0, 1) := by decide +kernel
theorem dX5_digest_30 : decode cX5_digest 30 = .ok (.istore_n 3, 1) := by decide +kernel
theorem dX5_digest_31 : decode cX5_digest 31 = .ok (.iload_n 3, 1) := by decide +kernel
theorem dX5_digest_32 : decode cX5_digest 32 = .ok (.getstatic 232, 3) := by decide +kernel
theorem dX5_digest_35 : decode cX5_digest 35 = .ok (.arraylength, 1) := by decide +kernel
theorem dX5_digest_36 : decode cX5_digest 36 = .ok (.if_icmp .ge 23, 3) := by decide +kernel
theorem dX5_digest_39 : decode cX5_digest 39 = .ok (.lload_n 1, 1) := by decide +kernel
theorem dX5_digest_40 : decode cX5_digest 40 = .ok (.aload_n 0, 1) := by decide +kernel
theorem dX5_digest_41 : decode cX5_digest 41 = .ok (.getfield 12, 3) := by decide +kernel
theorem dX5_digest_44 : decode cX5_digest 44 = .ok (.iload_n 3, 1) := by decide +kernel
theorem dX5_digest_45 : decode cX5_digest 45 = .ok (.invokevirtual 199, 3) := by decide +kernel
theorem dX5_digest_48 : decode cX5_digest 48 = .ok (.i2l, 1) := by decide +kernel
theorem dX5_digest_49 : decode cX5_digest 49 = .ok (.invokestatic 228, 3) := by decide +kernel
theorem dX5_digest_52 : decode cX5_digest 52 = .ok (.lstore_n 1, 1) := by decide +kernel
theorem dX5_digest_53 : decode cX5_digest 53 = .ok (.iinc 3 1, 3) := by decide +kernel
theorem dX5_digest_56 : decode cX5_digest 56 = .ok (.goto (-25), 3) := by decide +kernel
theorem dX5_digest_59 : decode cX5_digest 59 = .ok (.iconst 0, 1) := by decide +kernel
theorem dX5_digest_60 : decode cX5_digest 60 = .ok (.istore_n 3, 1) := by decide +kernel
theorem dX5_digest_61 : decode cX5_digest 61 = .ok (.iload_n 3, 1) := by decide +kernel
theorem dX5_digest_62 : decode cX5_digest 62 = .ok (.aload_n 0, 1) := by decide +kernel
theorem dX5_digest_63 : decode cX5_digest 63 = .ok (.getfield 12, 3) := by decide +kernel
theorem dX5_digest_66 : decode cX5_digest 66 = .ok (.invokevirtual 44, 3) := by decide +kernel
theorem dX5_digest_69 : decode cX5_digest 69 = .ok (.if_icmp .ge 23, 3) := by decide +kernel
theorem dX5_digest_72 : decode cX5_digest 72 = .ok (.aload_n 0, 1) := by decide +kernel
theorem dX5_digest_73 : decode cX5_digest 73 = .ok (.lload_n 1, 1) := by decide +kernel
theorem dX5_digest_74 : decode cX5_digest 74 = .ok (.iload_n 3, 1) := by decide +kernel
theorem dX5_digest_75 : decode cX5_digest 75 = .ok (.invokevirtual 236, 3) := by decide +kernel
theorem dX5_digest_78 : decode cX5_digest 78 = .ok (.lstore_n 1, 1) := by decide +kernel
theorem dX5_digest_79 : decode cX5_digest 79 = .ok (.aload_n 0, 1) := by decide +kernel
theorem dX5_digest_80 : decode cX5_digest 80 = .ok (.lload_n 1, 1) := by decide +kernel
theorem dX5_digest_81 : decode cX5_digest 81 = .ok (.iload_n 3, 1) := by decide +kernel
theorem dX5_digest_82 : decode cX5_digest 82 = .ok (.invokevirtual 240, 3) := by decide +kernel
theorem dX5_digest_85 : decode cX5_digest 85 = .ok (.lstore_n 1, 1) := by decide +kernel
theorem dX5_digest_86 : decode cX5_digest 86 = .ok (.iinc 3 1, 3) := by decide +kernel
theorem dX5_digest_89 : decode cX5_digest 89 = .ok (.goto (-28), 3) := by decide +kernel
theorem dX5_digest_92 : decode cX5_digest 92 = .ok (.iconst 0, 1) := by decide +kernel
theorem dX5_digest_93 : decode cX5_digest 93 = .ok (.istore_n 3, 1) := by decide +kernel
theorem dX5_digest_94 : decode cX5_digest 94 = .ok (.iload_n 3, 1) := by decide +kernel
theorem dX5_digest_95 : decode cX5_digest 95 = .ok (.aload_n 0, 1) := by decide +kernel
theorem dX5_digest_96 : decode cX5_digest 96 = .ok (.getfield 12, 3) := by decide +kernel
theorem dX5_digest_99 : decode cX5_digest 99 = .ok (.invokevirtual 179, 3) := by decide +kernel
theorem dX5_digest_102 : decode cX5_digest 102 = .ok (.if_icmp .ge 40, 3) := by decide +kernel
theorem dX5_digest_105 : decode cX5_digest 105 = .ok (.iconst 0, 1) := by decide +kernel
theorem dX5_digest_106 : decode cX5_digest 106 = .ok (.istore 4, 2) := by decide +kernel
theorem dX5_digest_108 : decode cX5_digest 108 = .ok (.iload 4, 2) := by decide +kernel
theorem dX5_digest_110 : decode cX5_digest 110 = .ok (.iconst 2, 1) := by decide +kernel
theorem dX5_digest_111 : decode cX5_digest 111 = .ok (.if_icmp .gt 25, 3) := by decide +kernel
theorem dX5_digest_114 : decode cX5_digest 114 = .ok (.lload_n 1, 1) := by decide +kernel
theorem dX5_digest_115 : decode cX5_digest 115 = .ok (.aload_n 0, 1) := by decide +kernel
theorem dX5_digest_116 : decode cX5_digest 116 = .ok (.getfield 12, 3) := by decide +kernel
theorem dX5_digest_119 : decode cX5_digest 119 = .ok (.iload_n 3, 1) := by decide +kernel
theorem dX5_digest_120 : decode cX5_digest 120 = .ok (.iload 4, 2) := by decide +kernel
theorem dX5_digest_122 : decode cX5_digest 122 = .ok (.invokevirtual 186, 3) := by decide +kernel
theorem dX5_digest_125 : decode cX5_digest 125 = .ok (.i2l, 1) := by decide +kernel
theorem dX5_digest_126 : decode cX5_digest 126 = .ok (.invokestatic 228, 3) := by decide +kernel
theorem dX5_digest_129 : decode cX5_digest 129 = .ok (.lstore_n 1, 1) := by decide +kernel
theorem dX5_digest_130 : decode cX5_digest 130 = .ok (.iinc 4 1, 3) := by decide +kernel
theorem dX5_digest_133 : decode cX5_digest 133 = .ok (.goto (-25), 3) := by decide +kernel
theorem dX5_digest_136 : decode cX5_digest 136 = .ok (.iinc 3 1, 3) := by decide +kernel
theorem dX5_digest_139 : decode cX5_digest 139 = .ok (.goto (-45), 3) := by decide +kernel
theorem dX5_digest_142 : decode cX5_digest 142 = .ok (.lload_n 1, 1) := by decide +kernel
theorem dX5_digest_143 : decode cX5_digest 143 = .ok (.aload_n 0, 1) := by decide +kernel
theorem dX5_digest_144 : decode cX5_digest 144 = .ok (.getfield 12, 3) := by decide +kernel
theorem dX5_digest_147 : decode cX5_digest 147 = .ok (.invokevirtual 214, 3) := by decide +kernel
theorem dX5_digest_150 : decode cX5_digest 150 = .ok (.i2l, 1) := by decide +kernel
theorem dX5_digest_151 : decode cX5_digest 151 = .ok (.invokestatic 228, 3) := by decide +kernel
theorem dX5_digest_154 : decode cX5_digest 154 = .ok (.lstore_n 1, 1) := by decide +kernel
theorem dX5_digest_155 : decode cX5_digest 155 = .ok (.lload_n 1, 1) := by decide +kernel
theorem dX5_digest_156 : decode cX5_digest 156 = .ok (.aload_n 0, 1) := by decide +kernel
theorem dX5_digest_157 : decode cX5_digest 157 = .ok (.invokevirtual 243, 3) := by decide +kernel
theorem dX5_digest_160 : decode cX5_digest 160 = .ok (.invokestatic 247, 3) := by decide +kernel
theorem dX5_digest_163 : decode cX5_digest 163 = .ok (.invokestatic 228, 3) := by decide +kernel
theorem dX5_digest_166 : decode cX5_digest 166 = .ok (.lstore_n 1, 1) := by decide +kernel
theorem dX5_digest_167 : decode cX5_digest 167 = .ok (.lload_n 1, 1) := by decide +kernel
theorem dX5_digest_168 : decode cX5_digest 168 = .ok (.aload_n 0, 1) := by decide +kernel
theorem dX5_digest_169 : decode cX5_digest 169 = .ok (.getfield 29, 3) := by decide +kernel
theorem dX5_digest_172 : decode cX5_digest 172 = .ok (.invokevirtual 134, 3) := by decide +kernel
theorem dX5_digest_175 : decode cX5_digest 175 = .ok (.i2l, 1) := by decide +kernel
theorem dX5_digest_176 : decode cX5_digest 176 = .ok (.invokestatic 228, 3) := by decide +kernel
theorem dX5_digest_179 : decode cX5_digest 179 = .ok (.lstore_n 1, 1) := by decide +kernel
theorem dX5_digest_180 : decode cX5_digest 180 = .ok (.iconst 0, 1) := by decide +kernel
theorem dX5_digest_181 : decode cX5_digest 181 = .ok (.istore_n 3, 1) := by decide +kernel
theorem dX5_digest_182 : decode cX5_digest 182 = .ok (.iload_n 3, 1) := by decide +kernel
theorem dX5_digest_183 : decode cX5_digest 183 = .ok (.aload_n 0, 1) := by decide +kernel
theorem dX5_digest_184 : decode cX5_digest 184 = .ok (.getfield 29, 3) := by decide +kernel
theorem dX5_digest_187 : decode cX5_digest 187 = .ok (.invokevirtual 134, 3) := by decide +kernel
theorem dX5_digest_190 : decode cX5_digest 190 = .ok (.if_icmp .ge 23, 3) := by decide +kernel
theorem dX5_digest_193 : decode cX5_digest 193 = .ok (.lload_n 1, 1) := by decide +kernel
theorem dX5_digest_194 : decode cX5_digest 194 = .ok (.aload_n 0, 1) := by decide +kernel
theorem dX5_digest_195 : decode cX5_digest 195 = .ok (.getfield 29, 3) := by decide +kernel
theorem dX5_digest_198 : decode cX5_digest 198 = .ok (.iload_n 3, 1) := by decide +kernel
theorem dX5_digest_199 : decode cX5_digest 199 = .ok (.invokevirtual 251, 3) := by decide +kernel
theorem dX5_digest_202 : decode cX5_digest 202 = .ok (.i2l, 1) := by decide +kernel
theorem dX5_digest_203 : decode cX5_digest 203 = .ok (.invokestatic 228, 3) := by decide +kernel
theorem dX5_digest_206 : decode cX5_digest 206 = .ok (.lstore_n 1, 1) := by decide +kernel
theorem dX5_digest_207 : decode cX5_digest 207 = .ok (.iinc 3 1, 3) := by decide +kernel
theorem dX5_digest_210 : decode cX5_digest 210 = .ok (.goto (-28), 3) := by decide +kernel
theorem dX5_digest_213 : decode cX5_digest 213 = .ok (.lload_n 1, 1) := by decide +kernel
theorem dX5_digest_214 : decode cX5_digest 214 = .ok (.lreturn, 1) := by decide +kernel
theorem dX5_isOutside_0 : decode cX5_isOutside 0 = .ok (.iload_n 0, 1) := by decide +kernel
theorem dX5_isOutside_1 : decode cX5_isOutside 1 = .ok (.iload_n 1, 1) := by decide +kernel
theorem dX5_isOutside_2 : decode cX5_isOutside 2 = .ok (.if_icmp .lt 8, 3) := by decide +kernel
theorem dX5_isOutside_5 : decode cX5_isOutside 5 = .ok (.iload_n 0, 1) := by decide +kernel
theorem dX5_isOutside_6 : decode cX5_isOutside 6 = .ok (.iload_n 2, 1) := by decide +kernel
theorem dX5_isOutside_7 : decode cX5_isOutside 7 = .ok (.if_icmp .le 7, 3) := by decide +kernel
theorem dX5_isOutside_10 : decode cX5_isOutside 10 = .ok (.iconst 1, 1) := by decide +kernel
theorem dX5_isOutside_11 : decode cX5_isOutside 11 = .ok (.goto 4, 3) := by decide +kernel
theorem dX5_isOutside_14 : decode cX5_isOutside 14 = .ok (.iconst 0, 1) := by decide +kernel
theorem dX5_isOutside_15 : decode cX5_isOutside 15 = .ok (.ireturn, 1) := by decide +kernel
theorem dX5_needProject_0 : decode cX5_needProject 0 = .ok (.iload_n 1, 1) := by decide +kernel
theorem dX5_needProject_1 : decode cX5_needProject 1 = .ok (.iconst 0, 1) := by decide +kernel
theorem dX5_needProject_2 : decode cX5_needProject 2 = .ok (.aload_n 0, 1) := by decide +kernel
theorem dX5_needProject_3 : decode cX5_needProject 3 = .ok (.getfield 12, 3) := by decide +kernel
theorem dX5_needProject_6 : decode cX5_needProject 6 = .ok (.invokevirtual 44, 3) := by decide +kernel
theorem dX5_needProject_9 : decode cX5_needProject 9 = .ok (.iconst 1, 1) := by decide +kernel
theorem dX5_needProject_10 : decode cX5_needProject 10 = .ok (.isub, 1) := by decide +kernel
theorem dX5_needProject_11 : decode cX5_needProject 11 = .ok (.invokestatic 33, 3) := by decide +kernel
theorem dX5_needProject_14 : decode cX5_needProject 14 = .ok (.ifCond .eq 13, 3) := by decide +kernel
theorem dX5_needProject_17 : decode cX5_needProject 17 = .ok (.new 170, 3) := by decide +kernel
theorem dX5_needProject_20 : decode cX5_needProject 20 = .ok (.dup, 1) := by decide +kernel
theorem dX5_needProject_21 : decode cX5_needProject 21 = .ok (.ldc 254, 2) := by decide +kernel
theorem dX5_needProject_23 : decode cX5_needProject 23 = .ok (.invokespecial 174, 3) := by decide +kernel
theorem dX5_needProject_26 : decode cX5_needProject 26 = .ok (.athrow, 1) := by decide +kernel
theorem dX5_needProject_27 : decode cX5_needProject 27 = .ok (.return_, 1) := by decide +kernel
theorem dX5_needSetting_0 : decode cX5_needSetting 0 = .ok (.iload_n 0, 1) := by decide +kernel
theorem dX5_needSetting_1 : decode cX5_needSetting 1 = .ok (.iconst 0, 1) := by decide +kernel
theorem dX5_needSetting_2 : decode cX5_needSetting 2 = .ok (.getstatic 232, 3) := by decide +kernel
theorem dX5_needSetting_5 : decode cX5_needSetting 5 = .ok (.arraylength, 1) := by decide +kernel
theorem dX5_needSetting_6 : decode cX5_needSetting 6 = .ok (.iconst 1, 1) := by decide +kernel
theorem dX5_needSetting_7 : decode cX5_needSetting 7 = .ok (.isub, 1) := by decide +kernel
theorem dX5_needSetting_8 : decode cX5_needSetting 8 = .ok (.invokestatic 33, 3) := by decide +kernel
theorem dX5_needSetting_11 : decode cX5_needSetting 11 = .ok (.ifCond .eq 14, 3) := by decide +kernel
theorem dX5_needSetting_14 : decode cX5_needSetting 14 = .ok (.new 170, 3) := by decide +kernel
theorem dX5_needSetting_17 : decode cX5_needSetting 17 = .ok (.dup, 1) := by decide +kernel
theorem dX5_needSetting_18 : decode cX5_needSetting 18 = .ok (.ldc_w 256, 3) := by decide +kernel
theorem dX5_needSetting_21 : decode cX5_needSetting 21 = .ok (.invokespecial 174, 3) := by decide +kernel
theorem dX5_needSetting_24 : decode cX5_needSetting 24 = .ok (.athrow, 1) := by decide +kernel
theorem dX5_needSetting_25 : decode cX5_needSetting 25 = .ok (.return_, 1) := by decide +kernel
theorem dX5_needDaysTaken_0 : decode cX5_needDaysTaken 0 = .ok (.iload_n 0, 1) := by decide +kernel
theorem dX5_needDaysTaken_1 : decode cX5_needDaysTaken 1 = .ok (.iconst 0, 1) := by decide +kernel
theorem dX5_needDaysTaken_2 : decode cX5_needDaysTaken 2 = .ok (.sipush 300, 3) := by decide +kernel
theorem dX5_needDaysTaken_5 : decode cX5_needDaysTaken 5 = .ok (.invokestatic 33, 3) := by decide +kernel
theorem dX5_needDaysTaken_8 : decode cX5_needDaysTaken 8 = .ok (.ifCond .eq 13, 3) := by decide +kernel
theorem dX5_needDaysTaken_11 : decode cX5_needDaysTaken 11 = .ok (.new 37, 3) := by decide +kernel
theorem dX5_needDaysTaken_14 : decode cX5_needDaysTaken 14 = .ok (.dup, 1) := by decide +kernel
theorem dX5_needDaysTaken_15 : decode cX5_needDaysTaken 15 = .ok (.ldc 65, 2) := by decide +kernel
theorem dX5_needDaysTaken_17 : decode cX5_needDaysTaken 17 = .ok (.invokespecial 41, 3) := by decide +kernel
theorem dX5_needDaysTaken_20 : decode cX5_needDaysTaken 20 = .ok (.athrow, 1) := by decide +kernel
theorem dX5_needDaysTaken_21 : decode cX5_needDaysTaken 21 = .ok (.return_, 1) := by decide +kernel
theorem dX5_greatestValue_0 : decode cX5_greatestValue 0 = .ok (.iload_n 0, 1) := by decide +kernel
theorem dX5_greatestValue_1 : decode cX5_greatestValue 1 = .ok (.ifCond .lt 19, 3) := by decide +kernel
theorem dX5_greatestValue_4 : decode cX5_greatestValue 4 = .ok (.iload_n 0, 1) := by decide +kernel
theorem dX5_greatestValue_5 : decode cX5_greatestValue 5 = .ok (.getstatic 232, 3) := by decide +kernel
theorem dX5_greatestValue_8 : decode cX5_greatestValue 8 = .ok (.arraylength, 1) := by decide +kernel
theorem dX5_greatestValue_9 : decode cX5_greatestValue 9 = .ok (.if_icmp .ge 11, 3) := by decide +kernel
theorem dX5_greatestValue_12 : decode cX5_greatestValue 12 = .ok (.getstatic 232, 3) := by decide +kernel
theorem dX5_greatestValue_15 : decode cX5_greatestValue 15 = .ok (.iload_n 0, 1) := by decide +kernel
theorem dX5_greatestValue_16 : decode cX5_greatestValue 16 = .ok (.iaload, 1) := by decide +kernel
theorem dX5_greatestValue_17 : decode cX5_greatestValue 17 = .ok (.goto 4, 3) := by decide +kernel
theorem dX5_greatestValue_20 : decode cX5_greatestValue 20 = .ok (.iconst 0, 1) := by decide +kernel
theorem dX5_greatestValue_21 : decode cX5_greatestValue 21 = .ok (.ireturn, 1) := by decide +kernel
theorem dX5_numberOf_0 : decode cX5_numberOf 0 = .ok (.iload_n 1, 1) := by decide +kernel
theorem dX5_numberOf_1 : decode cX5_numberOf 1 = .ok (.tableswitch 133 0 8 #[51, 59, 69, 77, 86, 95, 105, 115, 123], 51) := by decide +kernel
theorem dX5_numberOf_52 : decode cX5_numberOf 52 = .ok (.aload_n 0, 1) := by decide +kernel
theorem dX5_numberOf_53 : decode cX5_numberOf 53 = .ok (.getfield 12, 3) := by decide +kernel
theorem dX5_numberOf_56 : decode cX5_numberOf 56 = .ok (.invokevirtual 44, 3) := by decide +kernel
theorem dX5_numberOf_59 : decode cX5_numberOf 59 = .ok (.ireturn, 1) := by decide +kernel
theorem dX5_numberOf_60 : decode cX5_numberOf 60 = .ok (.aload_n 0, 1) := by decide +kernel
theorem dX5_numberOf_61 : decode cX5_numberOf 61 = .ok (.getfield 12, 3) := by decide +kernel
theorem dX5_numberOf_64 : decode cX5_numberOf 64 = .ok (.bipush 9, 2) := by decide +kernel
theorem dX5_numberOf_66 : decode cX5_numberOf 66 = .ok (.invokevirtual 223, 3) := by decide +kernel
theorem dX5_numberOf_69 : decode cX5_numberOf 69 = .ok (.ireturn, 1) := by decide +kernel
theorem dX5_numberOf_70 : decode cX5_numberOf 70 = .ok (.aload_n 0, 1) := by decide +kernel
theorem dX5_numberOf_71 : decode cX5_numberOf 71 = .ok (.getfield 12, 3) := by decide +kernel
theorem dX5_numberOf_74 : decode cX5_numberOf 74 = .ok (.invokevirtual 179, 3) := by decide +kernel
theorem dX5_numberOf_77 : decode cX5_numberOf 77 = .ok (.ireturn, 1) := by decide +kernel
theorem dX5_numberOf_78 : decode cX5_numberOf 78 = .ok (.aload_n 0, 1) := by decide +kernel
theorem dX5_numberOf_79 : decode cX5_numberOf 79 = .ok (.getfield 12, 3) := by decide +kernel
theorem dX5_numberOf_82 : decode cX5_numberOf 82 = .ok (.iconst 4, 1) := by decide +kernel
theorem dX5_numberOf_83 : decode cX5_numberOf 83 = .ok (.invokevirtual 223, 3) := by decide +kernel
theorem dX5_numberOf_86 : decode cX5_numberOf 86 = .ok (.ireturn, 1) := by decide +kernel
theorem dX5_numberOf_87 : decode cX5_numberOf 87 = .ok (.aload_n 0, 1) := by decide +kernel
theorem dX5_numberOf_88 : decode cX5_numberOf 88 = .ok (.getfield 12, 3) := by decide +kernel
theorem dX5_numberOf_91 : decode cX5_numberOf 91 = .ok (.iconst 2, 1) := by decide +kernel
theorem dX5_numberOf_92 : decode cX5_numberOf 92 = .ok (.invokevirtual 223, 3) := by decide +kernel
theorem dX5_numberOf_95 : decode cX5_numberOf 95 = .ok (.ireturn, 1) := by decide +kernel
theorem dX5_numberOf_96 : decode cX5_numberOf 96 = .ok (.aload_n 0, 1) := by decide +kernel
theorem dX5_numberOf_97 : decode cX5_numberOf 97 = .ok (.getfield 12, 3) := by decide +kernel
theorem dX5_numberOf_100 : decode cX5_numberOf 100 = .ok (.bipush 6, 2) := by decide +kernel
theorem dX5_numberOf_102 : decode cX5_numberOf 102 = .ok (.invokevirtual 223, 3) := by decide +kernel
theorem dX5_numberOf_105 : decode cX5_numberOf 105 = .ok (.ireturn, 1) := by decide +kernel
theorem dX5_numberOf_106 : decode cX5_numberOf 106 = .ok (.aload_n 0, 1) := by decide +kernel
theorem dX5_numberOf_107 : decode cX5_numberOf 107 = .ok (.getfield 12, 3) := by decide +kernel
theorem dX5_numberOf_110 : decode cX5_numberOf 110 = .ok (.bipush 8, 2) := by decide +kernel
theorem dX5_numberOf_112 : decode cX5_numberOf 112 = .ok (.invokevirtual 223, 3) := by decide +kernel
theorem dX5_numberOf_115 : decode cX5_numberOf 115 = .ok (.ireturn, 1) := by decide +kernel
theorem dX5_numberOf_116 : decode cX5_numberOf 116 = .ok (.aload_n 0, 1) := by decide +kernel
theorem dX5_numberOf_117 : decode cX5_numberOf 117 = .ok (.getfield 12, 3) := by decide +kernel
theorem dX5_numberOf_120 : decode cX5_numberOf 120 = .ok (.invokevirtual 220, 3) := by decide +kernel
theorem dX5_numberOf_123 : decode cX5_numberOf 123 = .ok (.ireturn, 1) := by decide +kernel
theorem dX5_numberOf_124 : decode cX5_numberOf 124 = .ok (.aload_n 0, 1) := by decide +kernel
theorem dX5_numberOf_125 : decode cX5_numberOf 125 = .ok (.getfield 12, 3) := by decide +kernel
theorem dX5_numberOf_128 : decode cX5_numberOf 128 = .ok (.bipush 10, 2) := by decide +kernel
theorem dX5_numberOf_130 : decode cX5_numberOf 130 = .ok (.invokevirtual 223, 3) := by decide +kernel
theorem dX5_numberOf_133 : decode cX5_numberOf 133 = .ok (.ireturn, 1) := by decide +kernel
theorem dX5_numberOf_134 : decode cX5_numberOf 134 = .ok (.aload_n 0, 1) := by decide +kernel
theorem dX5_numberOf_135 : decode cX5_numberOf 135 = .ok (.getfield 22, 3) := by decide +kernel
theorem dX5_numberOf_138 : decode cX5_numberOf 138 = .ok (.invokevirtual 160, 3) := by decide +kernel
theorem dX5_numberOf_141 : decode cX5_numberOf 141 = .ok (.ireturn, 1) := by decide +kernel
theorem dX5_openProjectsOfText_0 : decode cX5_openProjectsOfText 0 = .ok (.iconst 0, 1) := by decide +kernel
theorem dX5_openProjectsOfText_1 : decode cX5_openProjectsOfText 1 = .ok (.istore_n 1, 1) := by decide +kernel
theorem dX5_openProjectsOfText_2 : decode cX5_openProjectsOfText 2 = .ok (.iconst 0, 1) := by decide +kernel
theorem dX5_openProjectsOfText_3 : decode cX5_openProjectsOfText 3 = .ok (.istore_n 2, 1) := by decide +kernel
