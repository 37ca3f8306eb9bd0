theorem dX6_spent_35 : decode cX6_spent 35 = .ok (.iadd, 1) := by decide +kernel
theorem dX6_spent_36 : decode cX6_spent 36 = .ok (.istore_n 2, 1) := by decide +kernel
theorem dX6_spent_37 : decode cX6_spent 37 = .ok (.iinc 3 1, 3) := by decide +kernel
theorem dX6_spent_40 : decode cX6_spent 40 = .ok (.goto (-36), 3) := by decide +kernel
theorem dX6_spent_43 : decode cX6_spent 43 = .ok (.iload_n 2, 1) := by decide +kernel
theorem dX6_spent_44 : decode cX6_spent 44 = .ok (.ireturn, 1) := by decide +kernel
theorem dX6_projectOf_0 : decode cX6_projectOf 0 = .ok (.iload_n 1, 1) := by decide +kernel
theorem dX6_projectOf_1 : decode cX6_projectOf 1 = .ok (.invokestatic 39, 3) := by decide +kernel
theorem dX6_projectOf_4 : decode cX6_projectOf 4 = .ok (.istore_n 3, 1) := by decide +kernel
theorem dX6_projectOf_5 : decode cX6_projectOf 5 = .ok (.iload_n 2, 1) := by decide +kernel
theorem dX6_projectOf_6 : decode cX6_projectOf 6 = .ok (.tableswitch 161 0 13 #[70, 70, 70, 70, 79, 85, 91, 100, 109, 119, 129, 139, 149, 155], 70) := by decide +kernel
theorem dX6_projectOf_76 : decode cX6_projectOf 76 = .ok (.aload_n 0, 1) := by decide +kernel
theorem dX6_projectOf_77 : decode cX6_projectOf 77 = .ok (.getfield 7, 3) := by decide +kernel
theorem dX6_projectOf_80 : decode cX6_projectOf 80 = .ok (.iload_n 3, 1) := by decide +kernel
theorem dX6_projectOf_81 : decode cX6_projectOf 81 = .ok (.iload_n 2, 1) := by decide +kernel
theorem dX6_projectOf_82 : decode cX6_projectOf 82 = .ok (.iadd, 1) := by decide +kernel
theorem dX6_projectOf_83 : decode cX6_projectOf 83 = .ok (.iaload, 1) := by decide +kernel
theorem dX6_projectOf_84 : decode cX6_projectOf 84 = .ok (.ireturn, 1) := by decide +kernel
theorem dX6_projectOf_85 : decode cX6_projectOf 85 = .ok (.aload_n 0, 1) := by decide +kernel
theorem dX6_projectOf_86 : decode cX6_projectOf 86 = .ok (.iload_n 1, 1) := by decide +kernel
theorem dX6_projectOf_87 : decode cX6_projectOf 87 = .ok (.invokevirtual 170, 3) := by decide +kernel
theorem dX6_projectOf_90 : decode cX6_projectOf 90 = .ok (.ireturn, 1) := by decide +kernel
theorem dX6_projectOf_91 : decode cX6_projectOf 91 = .ok (.aload_n 0, 1) := by decide +kernel
theorem dX6_projectOf_92 : decode cX6_projectOf 92 = .ok (.iload_n 1, 1) := by decide +kernel
theorem dX6_projectOf_93 : decode cX6_projectOf 93 = .ok (.invokevirtual 71, 3) := by decide +kernel
theorem dX6_projectOf_96 : decode cX6_projectOf 96 = .ok (.ireturn, 1) := by decide +kernel
theorem dX6_projectOf_97 : decode cX6_projectOf 97 = .ok (.aload_n 0, 1) := by decide +kernel
theorem dX6_projectOf_98 : decode cX6_projectOf 98 = .ok (.getfield 7, 3) := by decide +kernel
theorem dX6_projectOf_101 : decode cX6_projectOf 101 = .ok (.iload_n 3, 1) := by decide +kernel
theorem dX6_projectOf_102 : decode cX6_projectOf 102 = .ok (.iconst 4, 1) := by decide +kernel
theorem dX6_projectOf_103 : decode cX6_projectOf 103 = .ok (.iadd, 1) := by decide +kernel
theorem dX6_projectOf_104 : decode cX6_projectOf 104 = .ok (.iaload, 1) := by decide +kernel
theorem dX6_projectOf_105 : decode cX6_projectOf 105 = .ok (.ireturn, 1) := by decide +kernel
theorem dX6_projectOf_106 : decode cX6_projectOf 106 = .ok (.aload_n 0, 1) := by decide +kernel
theorem dX6_projectOf_107 : decode cX6_projectOf 107 = .ok (.getfield 7, 3) := by decide +kernel
theorem dX6_projectOf_110 : decode cX6_projectOf 110 = .ok (.iload_n 3, 1) := by decide +kernel
theorem dX6_projectOf_111 : decode cX6_projectOf 111 = .ok (.iconst 5, 1) := by decide +kernel
theorem dX6_projectOf_112 : decode cX6_projectOf 112 = .ok (.iadd, 1) := by decide +kernel
theorem dX6_projectOf_113 : decode cX6_projectOf 113 = .ok (.iaload, 1) := by decide +kernel
theorem dX6_projectOf_114 : decode cX6_projectOf 114 = .ok (.ireturn, 1) := by decide +kernel
theorem dX6_projectOf_115 : decode cX6_projectOf 115 = .ok (.aload_n 0, 1) := by decide +kernel
theorem dX6_projectOf_116 : decode cX6_projectOf 116 = .ok (.getfield 7, 3) := by decide +kernel
theorem dX6_projectOf_119 : decode cX6_projectOf 119 = .ok (.iload_n 3, 1) := by decide +kernel
theorem dX6_projectOf_120 : decode cX6_projectOf 120 = .ok (.bipush 6, 2) := by decide +kernel
theorem dX6_projectOf_122 : decode cX6_projectOf 122 = .ok (.iadd, 1) := by decide +kernel
theorem dX6_projectOf_123 : decode cX6_projectOf 123 = .ok (.iaload, 1) := by decide +kernel
theorem dX6_projectOf_124 : decode cX6_projectOf 124 = .ok (.ireturn, 1) := by decide +kernel
theorem dX6_projectOf_125 : decode cX6_projectOf 125 = .ok (.aload_n 0, 1) := by decide +kernel
theorem dX6_projectOf_126 : decode cX6_projectOf 126 = .ok (.getfield 7, 3) := by decide +kernel
theorem dX6_projectOf_129 : decode cX6_projectOf 129 = .ok (.iload_n 3, 1) := by decide +kernel
theorem dX6_projectOf_130 : decode cX6_projectOf 130 = .ok (.bipush 7, 2) := by decide +kernel
theorem dX6_projectOf_132 : decode cX6_projectOf 132 = .ok (.iadd, 1) := by decide +kernel
theorem dX6_projectOf_133 : decode cX6_projectOf 133 = .ok (.iaload, 1) := by decide +kernel
theorem dX6_projectOf_134 : decode cX6_projectOf 134 = .ok (.ireturn, 1) := by decide +kernel
theorem dX6_projectOf_135 : decode cX6_projectOf 135 = .ok (.aload_n 0, 1) := by decide +kernel
theorem dX6_projectOf_136 : decode cX6_projectOf 136 = .ok (.getfield 7, 3) := by decide +kernel
theorem dX6_projectOf_139 : decode cX6_projectOf 139 = .ok (.iload_n 3, 1) := by decide +kernel
theorem dX6_projectOf_140 : decode cX6_projectOf 140 = .ok (.bipush 8, 2) := by decide +kernel
theorem dX6_projectOf_142 : decode cX6_projectOf 142 = .ok (.iadd, 1) := by decide +kernel
theorem dX6_projectOf_143 : decode cX6_projectOf 143 = .ok (.iaload, 1) := by decide +kernel
theorem dX6_projectOf_144 : decode cX6_projectOf 144 = .ok (.ireturn, 1) := by decide +kernel
theorem dX6_projectOf_145 : decode cX6_projectOf 145 = .ok (.aload_n 0, 1) := by decide +kernel
theorem dX6_projectOf_146 : decode cX6_projectOf 146 = .ok (.getfield 7, 3) := by decide +kernel
theorem dX6_projectOf_149 : decode cX6_projectOf 149 = .ok (.iload_n 3, 1) := by decide +kernel
theorem dX6_projectOf_150 : decode cX6_projectOf 150 = .ok (.bipush 9, 2) := by decide +kernel
theorem dX6_projectOf_152 : decode cX6_projectOf 152 = .ok (.iadd, 1) := by decide +kernel
theorem dX6_projectOf_153 : decode cX6_projectOf 153 = .ok (.iaload, 1) := by decide +kernel
theorem dX6_projectOf_154 : decode cX6_projectOf 154 = .ok (.ireturn, 1) := by decide +kernel
theorem dX6_projectOf_155 : decode cX6_projectOf 155 = .ok (.aload_n 0, 1) := by decide +kernel
theorem dX6_projectOf_156 : decode cX6_projectOf 156 = .ok (.iload_n 1, 1) := by decide +kernel
theorem dX6_projectOf_157 : decode cX6_projectOf 157 = .ok (.invokevirtual 173, 3) := by decide +kernel
theorem dX6_projectOf_160 : decode cX6_projectOf 160 = .ok (.ireturn, 1) := by decide +kernel
theorem dX6_projectOf_161 : decode cX6_projectOf 161 = .ok (.aload_n 0, 1) := by decide +kernel
theorem dX6_projectOf_162 : decode cX6_projectOf 162 = .ok (.iload_n 1, 1) := by decide +kernel
theorem dX6_projectOf_163 : decode cX6_projectOf 163 = .ok (.invokevirtual 176, 3) := by decide +kernel
theorem dX6_projectOf_166 : decode cX6_projectOf 166 = .ok (.ireturn, 1) := by decide +kernel
theorem dX6_projectOf_167 : decode cX6_projectOf 167 = .ok (.aload_n 0, 1) := by decide +kernel
theorem dX6_projectOf_168 : decode cX6_projectOf 168 = .ok (.iload_n 1, 1) := by decide +kernel
theorem dX6_projectOf_169 : decode cX6_projectOf 169 = .ok (.invokevirtual 68, 3) := by decide +kernel
theorem dX6_projectOf_172 : decode cX6_projectOf 172 = .ok (.ireturn, 1) := by decide +kernel
theorem dX6_project_0 : decode cX6_project 0 = .ok (.aload_n 0, 1) := by decide +kernel
theorem dX6_project_1 : decode cX6_project 1 = .ok (.iconst 0, 1) := by decide +kernel
theorem dX6_project_2 : decode cX6_project 2 = .ok (.putfield 28, 3) := by decide +kernel
theorem dX6_project_5 : decode cX6_project 5 = .ok (.aload_n 0, 1) := by decide +kernel
theorem dX6_project_6 : decode cX6_project 6 = .ok (.iload_n 1, 1) := by decide +kernel
theorem dX6_project_7 : decode cX6_project 7 = .ok (.invokevirtual 123, 3) := by decide +kernel
theorem dX6_project_10 : decode cX6_project 10 = .ok (.ifCond .ne 9, 3) := by decide +kernel
theorem dX6_project_13 : decode cX6_project 13 = .ok (.aload_n 0, 1) := by decide +kernel
theorem dX6_project_14 : decode cX6_project 14 = .ok (.iconst 1, 1) := by decide +kernel
theorem dX6_project_15 : decode cX6_project 15 = .ok (.invokevirtual 114, 3) := by decide +kernel
theorem dX6_project_18 : decode cX6_project 18 = .ok (.ireturn, 1) := by decide +kernel
theorem dX6_project_19 : decode cX6_project 19 = .ok (.iload_n 2, 1) := by decide +kernel
theorem dX6_project_20 : decode cX6_project 20 = .ok (.iconst 0, 1) := by decide +kernel
theorem dX6_project_21 : decode cX6_project 21 = .ok (.bipush 14, 2) := by decide +kernel
theorem dX6_project_23 : decode cX6_project 23 = .ok (.invokestatic 35, 3) := by decide +kernel
theorem dX6_project_26 : decode cX6_project 26 = .ok (.ifCond .eq 12, 3) := by decide +kernel
theorem dX6_project_29 : decode cX6_project 29 = .ok (.aload_n 0, 1) := by decide +kernel
theorem dX6_project_30 : decode cX6_project 30 = .ok (.iload_n 1, 1) := by decide +kernel
theorem dX6_project_31 : decode cX6_project 31 = .ok (.iload_n 2, 1) := by decide +kernel
theorem dX6_project_32 : decode cX6_project 32 = .ok (.invokevirtual 179, 3) := by decide +kernel
theorem dX6_project_35 : decode cX6_project 35 = .ok (.goto 8, 3) := by decide +kernel
theorem dX6_project_38 : decode cX6_project 38 = .ok (.aload_n 0, 1) := by decide +kernel
theorem dX6_project_39 : decode cX6_project 39 = .ok (.iconst 2, 1) := by decide +kernel
theorem dX6_project_40 : decode cX6_project 40 = .ok (.invokevirtual 114, 3) := by decide +kernel
theorem dX6_project_43 : decode cX6_project 43 = .ok (.ireturn, 1) := by decide +kernel
theorem dX6_taskOf_0 : decode cX6_taskOf 0 = .ok (.iload_n 1, 1) := by decide +kernel
theorem dX6_taskOf_1 : decode cX6_taskOf 1 = .ok (.invokestatic 39, 3) := by decide +kernel
theorem dX6_taskOf_4 : decode cX6_taskOf 4 = .ok (.istore 4, 2) := by decide +kernel
theorem dX6_taskOf_6 : decode cX6_taskOf 6 = .ok (.iload_n 3, 1) := by decide +kernel
theorem dX6_taskOf_7 : decode cX6_taskOf 7 = .ok (.iconst 2, 1) := by decide +kernel
theorem dX6_taskOf_8 : decode cX6_taskOf 8 = .ok (.if_icmp .ge 35, 3) := by decide +kernel
theorem dX6_taskOf_11 : decode cX6_taskOf 11 = .ok (.iload_n 3, 1) := by decide +kernel
theorem dX6_taskOf_12 : decode cX6_taskOf 12 = .ok (.ifCond .ne 18, 3) := by decide +kernel
theorem dX6_taskOf_15 : decode cX6_taskOf 15 = .ok (.aload_n 0, 1) := by decide +kernel
theorem dX6_taskOf_16 : decode cX6_taskOf 16 = .ok (.getfield 7, 3) := by decide +kernel
theorem dX6_taskOf_19 : decode cX6_taskOf 19 = .ok (.iload 4, 2) := by decide +kernel
theorem dX6_taskOf_21 : decode cX6_taskOf 21 = .ok (.bipush 10, 2) := by decide +kernel
theorem dX6_taskOf_23 : decode cX6_taskOf 23 = .ok (.iadd, 1) := by decide +kernel
theorem dX6_taskOf_24 : decode cX6_taskOf 24 = .ok (.iload_n 2, 1) := by decide +kernel
theorem dX6_taskOf_25 : decode cX6_taskOf 25 = .ok (.iadd, 1) := by decide +kernel
theorem dX6_taskOf_26 : decode cX6_taskOf 26 = .ok (.iaload, 1) := by decide +kernel
theorem dX6_taskOf_27 : decode cX6_taskOf 27 = .ok (.goto 15, 3) := by decide +kernel
theorem dX6_taskOf_30 : decode cX6_taskOf 30 = .ok (.aload_n 0, 1) := by decide +kernel
theorem dX6_taskOf_31 : decode cX6_taskOf 31 = .ok (.getfield 7, 3) := by decide +kernel
theorem dX6_taskOf_34 : decode cX6_taskOf 34 = .ok (.iload 4, 2) := by decide +kernel
theorem dX6_taskOf_36 : decode cX6_taskOf 36 = .ok (.bipush 18, 2) := by decide +kernel
theorem dX6_taskOf_38 : decode cX6_taskOf 38 = .ok (.iadd, 1) := by decide +kernel
theorem dX6_taskOf_39 : decode cX6_taskOf 39 = .ok (.iload_n 2, 1) := by decide +kernel
theorem dX6_taskOf_40 : decode cX6_taskOf 40 = .ok (.iadd, 1) := by decide +kernel
theorem dX6_taskOf_41 : decode cX6_taskOf 41 = .ok (.iaload, 1) := by decide +kernel
theorem dX6_taskOf_42 : decode cX6_taskOf 42 = .ok (.ireturn, 1) := by decide +kernel
theorem dX6_taskOf_43 : decode cX6_taskOf 43 = .ok (.aload_n 0, 1) := by decide +kernel
theorem dX6_taskOf_44 : decode cX6_taskOf 44 = .ok (.getfield 7, 3) := by decide +kernel
theorem dX6_taskOf_47 : decode cX6_taskOf 47 = .ok (.iload 4, 2) := by decide +kernel
theorem dX6_taskOf_49 : decode cX6_taskOf 49 = .ok (.bipush 26, 2) := by decide +kernel
theorem dX6_taskOf_51 : decode cX6_taskOf 51 = .ok (.iadd, 1) := by decide +kernel
theorem dX6_taskOf_52 : decode cX6_taskOf 52 = .ok (.iconst 4, 1) := by decide +kernel
theorem dX6_taskOf_53 : decode cX6_taskOf 53 = .ok (.iload_n 2, 1) := by decide +kernel
theorem dX6_taskOf_54 : decode cX6_taskOf 54 = .ok (.imul, 1) := by decide +kernel
theorem dX6_taskOf_55 : decode cX6_taskOf 55 = .ok (.iadd, 1) := by decide +kernel
theorem dX6_taskOf_56 : decode cX6_taskOf 56 = .ok (.iload_n 3, 1) := by decide +kernel
theorem dX6_taskOf_57 : decode cX6_taskOf 57 = .ok (.iadd, 1) := by decide +kernel
theorem dX6_taskOf_58 : decode cX6_taskOf 58 = .ok (.iconst 2, 1) := by decide +kernel
theorem dX6_taskOf_59 : decode cX6_taskOf 59 = .ok (.isub, 1) := by decide +kernel
theorem dX6_taskOf_60 : decode cX6_taskOf 60 = .ok (.iaload, 1) := by decide +kernel
theorem dX6_taskOf_61 : decode cX6_taskOf 61 = .ok (.ireturn, 1) := by decide +kernel
theorem dX6_task_0 : decode cX6_task 0 = .ok (.aload_n 0, 1) := by decide +kernel
theorem dX6_task_1 : decode cX6_task 1 = .ok (.iconst 0, 1) := by decide +kernel
theorem dX6_task_2 : decode cX6_task 2 = .ok (.putfield 28, 3) := by decide +kernel
theorem dX6_task_5 : decode cX6_task 5 = .ok (.aload_n 0, 1) := by decide +kernel
theorem dX6_task_6 : decode cX6_task 6 = .ok (.iload_n 1, 1) := by decide +kernel
theorem dX6_task_7 : decode cX6_task 7 = .ok (.invokevirtual 123, 3) := by decide +kernel
theorem dX6_task_10 : decode cX6_task 10 = .ok (.ifCond .eq 24, 3) := by decide +kernel
theorem dX6_task_13 : decode cX6_task 13 = .ok (.iload_n 2, 1) := by decide +kernel
theorem dX6_task_14 : decode cX6_task 14 = .ok (.iconst 0, 1) := by decide +kernel
theorem dX6_task_15 : decode cX6_task 15 = .ok (.aload_n 0, 1) := by decide +kernel
theorem dX6_task_16 : decode cX6_task 16 = .ok (.getfield 7, 3) := by decide +kernel
theorem dX6_task_19 : decode cX6_task 19 = .ok (.iload_n 1, 1) := by decide +kernel
theorem dX6_task_20 : decode cX6_task 20 = .ok (.invokestatic 39, 3) := by decide +kernel
theorem dX6_task_23 : decode cX6_task 23 = .ok (.iconst 5, 1) := by decide +kernel
theorem dX6_task_24 : decode cX6_task 24 = .ok (.iadd, 1) := by decide +kernel
theorem dX6_task_25 : decode cX6_task 25 = .ok (.iaload, 1) := by decide +kernel
theorem dX6_task_26 : decode cX6_task 26 = .ok (.iconst 1, 1) := by decide +kernel
theorem dX6_task_27 : decode cX6_task 27 = .ok (.isub, 1) := by decide +kernel
theorem dX6_task_28 : decode cX6_task 28 = .ok (.invokestatic 35, 3) := by decide +kernel
theorem dX6_task_31 : decode cX6_task 31 = .ok (.ifCond .ne 9, 3) := by decide +kernel
theorem dX6_task_34 : decode cX6_task 34 = .ok (.aload_n 0, 1) := by decide +kernel
theorem dX6_task_35 : decode cX6_task 35 = .ok (.iconst 1, 1) := by decide +kernel
theorem dX6_task_36 : decode cX6_task 36 = .ok (.invokevirtual 114, 3) := by decide +kernel
theorem dX6_task_39 : decode cX6_task 39 = .ok (.ireturn, 1) := by decide +kernel
theorem dX6_task_40 : decode cX6_task 40 = .ok (.iload_n 3, 1) := by decide +kernel
theorem dX6_task_41 : decode cX6_task 41 = .ok (.iconst 0, 1) := by decide +kernel
theorem dX6_task_42 : decode cX6_task 42 = .ok (.iconst 5, 1) := by decide +kernel
theorem dX6_task_43 : decode cX6_task 43 = .ok (.invokestatic 35, 3) := by decide +kernel
theorem dX6_task_46 : decode cX6_task 46 = .ok (.ifCond .eq 13, 3) := by decide +kernel
theorem dX6_task_49 : decode cX6_task 49 = .ok (.aload_n 0, 1) := by decide +kernel
theorem dX6_task_50 : decode cX6_task 50 = .ok (.iload_n 1, 1) := by decide +kernel
theorem dX6_task_51 : decode cX6_task 51 = .ok (.iload_n 2, 1) := by decide +kernel
theorem dX6_task_52 : decode cX6_task 52 = .ok (.iload_n 3, 1) := by decide +kernel
theorem dX6_task_53 : decode cX6_task 53 = .ok (.invokevirtual 182, 3) := by decide +kernel
theorem dX6_task_56 : decode cX6_task 56 = .ok (.goto 8, 3) := by decide +kernel
theorem dX6_task_59 : decode cX6_task 59 = .ok (.aload_n 0, 1) := by decide +kernel
theorem dX6_task_60 : decode cX6_task 60 = .ok (.iconst 2, 1) := by decide +kernel
theorem dX6_task_61 : decode cX6_task 61 = .ok (.invokevirtual 114, 3) := by decide +kernel
theorem dX6_task_64 : decode cX6_task 64 = .ok (.ireturn, 1) := by decide +kernel
theorem dX6_loan_0 : decode cX6_loan 0 = .ok (.aload_n 0, 1) := by decide +kernel
theorem dX6_loan_1 : decode cX6_loan 1 = .ok (.iconst 0, 1) := by decide +kernel
theorem dX6_loan_2 : decode cX6_loan 2 = .ok (.putfield 28, 3) := by decide +kernel
theorem dX6_loan_5 : decode cX6_loan 5 = .ok (.iload_n 1, 1) := by decide +kernel
theorem dX6_loan_6 : decode cX6_loan 6 = .ok (.iconst 0, 1) := by decide +kernel
theorem dX6_loan_7 : decode cX6_loan 7 = .ok (.aload_n 0, 1) := by decide +kernel
theorem dX6_loan_8 : decode cX6_loan 8 = .ok (.getfield 7, 3) := by decide +kernel
theorem dX6_loan_11 : decode cX6_loan 11 = .ok (.iconst 1, 1) := by decide +kernel
theorem dX6_loan_12 : decode cX6_loan 12 = .ok (.iaload, 1) := by decide +kernel
theorem dX6_loan_13 : decode cX6_loan 13 = .ok (.iconst 1, 1) := by decide +kernel
theorem dX6_loan_14 : decode cX6_loan 14 = .ok (.isub, 1) := by decide +kernel
theorem dX6_loan_15 : decode cX6_loan 15 = .ok (.invokestatic 35, 3) := by decide +kernel
theorem dX6_loan_18 : decode cX6_loan 18 = .ok (.ifCond .ne 9, 3) := by decide +kernel
theorem dX6_loan_21 : decode cX6_loan 21 = .ok (.aload_n 0, 1) := by decide +kernel
theorem dX6_loan_22 : decode cX6_loan 22 = .ok (.iconst 1, 1) := by decide +kernel
theorem dX6_loan_23 : decode cX6_loan 23 = .ok (.invokevirtual 114, 3) := by decide +kernel
theorem dX6_loan_26 : decode cX6_loan 26 = .ok (.ireturn, 1) := by decide +kernel
theorem dX6_loan_27 : decode cX6_loan 27 = .ok (.iload_n 2, 1) := by decide +kernel
theorem dX6_loan_28 : decode cX6_loan 28 = .ok (.iconst 0, 1) := by decide +kernel
theorem dX6_loan_29 : decode cX6_loan 29 = .ok (.iconst 2, 1) := by decide +kernel
theorem dX6_loan_30 : decode cX6_loan 30 = .ok (.invokestatic 35, 3) := by decide +kernel
theorem dX6_loan_33 : decode cX6_loan 33 = .ok (.ifCond .eq 17, 3) := by decide +kernel
theorem dX6_loan_36 : decode cX6_loan 36 = .ok (.aload_n 0, 1) := by decide +kernel
theorem dX6_loan_37 : decode cX6_loan 37 = .ok (.getfield 7, 3) := by decide +kernel
theorem dX6_loan_40 : decode cX6_loan 40 = .ok (.iload_n 1, 1) := by decide +kernel
theorem dX6_loan_41 : decode cX6_loan 41 = .ok (.invokestatic 50, 3) := by decide +kernel
theorem dX6_loan_44 : decode cX6_loan 44 = .ok (.iload_n 2, 1) := by decide +kernel
theorem dX6_loan_45 : decode cX6_loan 45 = .ok (.iadd, 1) := by decide +kernel
theorem dX6_loan_46 : decode cX6_loan 46 = .ok (.iaload, 1) := by decide +kernel
theorem dX6_loan_47 : decode cX6_loan 47 = .ok (.goto 8, 3) := by decide +kernel
theorem dX6_loan_50 : decode cX6_loan 50 = .ok (.aload_n 0, 1) := by decide +kernel
theorem dX6_loan_51 : decode cX6_loan 51 = .ok (.iconst 2, 1) := by decide +kernel
theorem dX6_loan_52 : decode cX6_loan 52 = .ok (.invokevirtual 114, 3) := by decide +kernel
theorem dX6_loan_55 : decode cX6_loan 55 = .ok (.ireturn, 1) := by decide +kernel
theorem dX6_owed_0 : decode cX6_owed 0 = .ok (.aload_n 0, 1) := by decide +kernel
theorem dX6_owed_1 : decode cX6_owed 1 = .ok (.iconst 0, 1) := by decide +kernel
theorem dX6_owed_2 : decode cX6_owed 2 = .ok (.putfield 28, 3) := by decide +kernel
theorem dX6_owed_5 : decode cX6_owed 5 = .ok (.aload_n 0, 1) := by decide +kernel
theorem dX6_owed_6 : decode cX6_owed 6 = .ok (.iload_n 1, 1) := by decide +kernel
theorem dX6_owed_7 : decode cX6_owed 7 = .ok (.invokevirtual 123, 3) := by decide +kernel
theorem dX6_owed_10 : decode cX6_owed 10 = .ok (.ifCond .eq 20, 3) := by decide +kernel
theorem dX6_owed_13 : decode cX6_owed 13 = .ok (.aload_n 0, 1) := by decide +kernel
theorem dX6_owed_14 : decode cX6_owed 14 = .ok (.iload_n 2, 1) := by decide +kernel
theorem dX6_owed_15 : decode cX6_owed 15 = .ok (.invokevirtual 123, 3) := by decide +kernel
theorem dX6_owed_18 : decode cX6_owed 18 = .ok (.ifCond .eq 12, 3) := by decide +kernel
theorem dX6_owed_21 : decode cX6_owed 21 = .ok (.aload_n 0, 1) := by decide +kernel
theorem dX6_owed_22 : decode cX6_owed 22 = .ok (.iload_n 1, 1) := by decide +kernel
theorem dX6_owed_23 : decode cX6_owed 23 = .ok (.iload_n 2, 1) := by decide +kernel
theorem dX6_owed_24 : decode cX6_owed 24 = .ok (.invokevirtual 135, 3) := by decide +kernel
theorem dX6_owed_27 : decode cX6_owed 27 = .ok (.goto 8, 3) := by decide +kernel
theorem dX6_owed_30 : decode cX6_owed 30 = .ok (.aload_n 0, 1) := by decide +kernel
theorem dX6_owed_31 : decode cX6_owed 31 = .ok (.iconst 1, 1) := by decide +kernel
theorem dX6_owed_32 : decode cX6_owed 32 = .ok (.invokevirtual 114, 3) := by decide +kernel
theorem dX6_owed_35 : decode cX6_owed 35 = .ok (.ireturn, 1) := by decide +kernel
theorem dX6_lenderOf_0 : decode cX6_lenderOf 0 = .ok (.aload_n 0, 1) := by decide +kernel
theorem dX6_lenderOf_1 : decode cX6_lenderOf 1 = .ok (.iload_n 1, 1) := by decide +kernel
theorem dX6_lenderOf_2 : decode cX6_lenderOf 2 = .ok (.invokevirtual 83, 3) := by decide +kernel
theorem dX6_lenderOf_5 : decode cX6_lenderOf 5 = .ok (.iload_n 2, 1) := by decide +kernel
theorem dX6_lenderOf_6 : decode cX6_lenderOf 6 = .ok (.aload_n 0, 1) := by decide +kernel
theorem dX6_lenderOf_7 : decode cX6_lenderOf 7 = .ok (.getfield 74, 3) := by decide +kernel
theorem dX6_lenderOf_10 : decode cX6_lenderOf 10 = .ok (.if_icmp .ge 12, 3) := by decide +kernel
theorem dX6_lenderOf_13 : decode cX6_lenderOf 13 = .ok (.aload_n 0, 1) := by decide +kernel
theorem dX6_lenderOf_14 : decode cX6_lenderOf 14 = .ok (.getfield 22, 3) := by decide +kernel
theorem dX6_lenderOf_17 : decode cX6_lenderOf 17 = .ok (.iload_n 2, 1) := by decide +kernel
theorem dX6_lenderOf_18 : decode cX6_lenderOf 18 = .ok (.iaload, 1) := by decide +kernel
theorem dX6_lenderOf_19 : decode cX6_lenderOf 19 = .ok (.goto 4, 3) := by decide +kernel
theorem dX6_lenderOf_22 : decode cX6_lenderOf 22 = .ok (.iconst (-1), 1) := by decide +kernel
theorem dX6_lenderOf_23 : decode cX6_lenderOf 23 = .ok (.ireturn, 1) := by decide +kernel
theorem dX6_lender_0 : decode cX6_lender 0 = .ok (.aload_n 0, 1) := by decide +kernel
theorem dX6_lender_1 : decode cX6_lender 1 = .ok (.iconst 0, 1) := by decide +kernel
theorem dX6_lender_2 : decode cX6_lender 2 = .ok (.putfield 28, 3) := by decide +kernel
theorem dX6_lender_5 : decode cX6_lender 5 = .ok (.aload_n 0, 1) := by decide +kernel
theorem dX6_lender_6 : decode cX6_lender 6 = .ok (.iload_n 1, 1) := by decide +kernel
theorem dX6_lender_7 : decode cX6_lender 7 = .ok (.invokevirtual 123, 3) := by decide +kernel
theorem dX6_lender_10 : decode cX6_lender 10 = .ok (.ifCond .ne 9, 3) := by decide +kernel
theorem dX6_lender_13 : decode cX6_lender 13 = .ok (.aload_n 0, 1) := by decide +kernel
theorem dX6_lender_14 : decode cX6_lender 14 = .ok (.iconst 1, 1) := by decide +kernel
theorem dX6_lender_15 : decode cX6_lender 15 = .ok (.invokevirtual 114, 3) := by decide +kernel
theorem dX6_lender_18 : decode cX6_lender 18 = .ok (.ireturn, 1) := by decide +kernel
theorem dX6_lender_19 : decode cX6_lender 19 = .ok (.iload_n 2, 1) := by decide +kernel
theorem dX6_lender_20 : decode cX6_lender 20 = .ok (.iconst 0, 1) := by decide +kernel
theorem dX6_lender_21 : decode cX6_lender 21 = .ok (.iconst 4, 1) := by decide +kernel
theorem dX6_lender_22 : decode cX6_lender 22 = .ok (.invokestatic 35, 3) := by decide +kernel
theorem dX6_lender_25 : decode cX6_lender 25 = .ok (.ifCond .eq 12, 3) := by decide +kernel
theorem dX6_lender_28 : decode cX6_lender 28 = .ok (.aload_n 0, 1) := by decide +kernel
theorem dX6_lender_29 : decode cX6_lender 29 = .ok (.iload_n 1, 1) := by decide +kernel
theorem dX6_lender_30 : decode cX6_lender 30 = .ok (.iload_n 2, 1) := by decide +kernel
theorem dX6_lender_31 : decode cX6_lender 31 = .ok (.invokevirtual 186, 3) := by decide +kernel
theorem dX6_lender_34 : decode cX6_lender 34 = .ok (.goto 8, 3) := by decide +kernel
theorem dX6_lender_37 : decode cX6_lender 37 = .ok (.aload_n 0, 1) := by decide +kernel
theorem dX6_lender_38 : decode cX6_lender 38 = .ok (.iconst 2, 1) := by decide +kernel
theorem dX6_lender_39 : decode cX6_lender 39 = .ok (.invokevirtual 114, 3) := by decide +kernel
theorem dX6_lender_42 : decode cX6_lender 42 = .ok (.ireturn, 1) := by decide +kernel
theorem dX6_ofProjects_0 : decode cX6_ofProjects 0 = .ok (.iconst 0, 1) := by decide +kernel
theorem dX6_ofProjects_1 : decode cX6_ofProjects 1 = .ok (.istore_n 2, 1) := by decide +kernel
theorem dX6_ofProjects_2 : decode cX6_ofProjects 2 = .ok (.iconst 0, 1) := by decide +kernel
theorem dX6_ofProjects_3 : decode cX6_ofProjects 3 = .ok (.istore_n 3, 1) := by decide +kernel
theorem dX6_ofProjects_4 : decode cX6_ofProjects 4 = .ok (.iload_n 3, 1) := by decide +kernel
theorem dX6_ofProjects_5 : decode cX6_ofProjects 5 = .ok (.aload_n 0, 1) := by decide +kernel
theorem dX6_ofProjects_6 : decode cX6_ofProjects 6 = .ok (.getfield 7, 3) := by decide +kernel
theorem dX6_ofProjects_9 : decode cX6_ofProjects 9 = .ok (.iconst 0, 1) := by decide +kernel
theorem dX6_ofProjects_10 : decode cX6_ofProjects 10 = .ok (.iaload, 1) := by decide +kernel
theorem dX6_ofProjects_11 : decode cX6_ofProjects 11 = .ok (.if_icmp .ge 18, 3) := by decide +kernel
theorem dX6_ofProjects_14 : decode cX6_ofProjects 14 = .ok (.iload_n 2, 1) := by decide +kernel
theorem dX6_ofProjects_15 : decode cX6_ofProjects 15 = .ok (.aload_n 0, 1) := by decide +kernel
theorem dX6_ofProjects_16 : decode cX6_ofProjects 16 = .ok (.iload_n 3, 1) := by decide +kernel
theorem dX6_ofProjects_17 : decode cX6_ofProjects 17 = .ok (.iload_n 1, 1) := by decide +kernel
theorem dX6_ofProjects_18 : decode cX6_ofProjects 18 = .ok (.invokevirtual 179, 3) := by decide +kernel
theorem dX6_ofProjects_21 : decode cX6_ofProjects 21 = .ok (.iadd, 1) := by decide +kernel
theorem dX6_ofProjects_22 : decode cX6_ofProjects 22 = .ok (.istore_n 2, 1) := by decide +kernel
theorem dX6_ofProjects_23 : decode cX6_ofProjects 23 = .ok (.iinc 3 1, 3) := by decide +kernel
theorem dX6_ofProjects_26 : decode cX6_ofProjects 26 = .ok (.goto (-22), 3) := by decide +kernel
theorem dX6_ofProjects_29 : decode cX6_ofProjects 29 = .ok (.iload_n 2, 1) := by decide +kernel
theorem dX6_ofProjects_30 : decode cX6_ofProjects 30 = .ok (.ireturn, 1) := by decide +kernel
theorem dX6_delays_0 : decode cX6_delays 0 = .ok (.iconst 0, 1) := by decide +kernel
theorem dX6_delays_1 : decode cX6_delays 1 = .ok (.istore_n 1, 1) := by decide +kernel
theorem dX6_delays_2 : decode cX6_delays 2 = .ok (.iconst 0, 1) := by decide +kernel
theorem dX6_delays_3 : decode cX6_delays 3 = .ok (.istore_n 2, 1) := by decide +kernel
theorem dX6_delays_4 : decode cX6_delays 4 = .ok (.iload_n 2, 1) := by decide +kernel
theorem dX6_delays_5 : decode cX6_delays 5 = .ok (.aload_n 0, 1) := by decide +kernel
theorem dX6_delays_6 : decode cX6_delays 6 = .ok (.getfield 7, 3) := by decide +kernel
theorem dX6_delays_9 : decode cX6_delays 9 = .ok (.iconst 0, 1) := by decide +kernel
theorem dX6_delays_10 : decode cX6_delays 10 = .ok (.iaload, 1) := by decide +kernel
theorem dX6_delays_11 : decode cX6_delays 11 = .ok (.if_icmp .ge 64, 3) := by decide +kernel
theorem dX6_delays_14 : decode cX6_delays 14 = .ok (.iconst 0, 1) := by decide +kernel
theorem dX6_delays_15 : decode cX6_delays 15 = .ok (.istore_n 3, 1) := by decide +kernel
theorem dX6_delays_16 : decode cX6_delays 16 = .ok (.iload_n 3, 1) := by decide +kernel
theorem dX6_delays_17 : decode cX6_delays 17 = .ok (.aload_n 0, 1) := by decide +kernel
theorem dX6_delays_18 : decode cX6_delays 18 = .ok (.getfield 7, 3) := by decide +kernel
theorem dX6_delays_21 : decode cX6_delays 21 = .ok (.iload_n 2, 1) := by decide +kernel
theorem dX6_delays_22 : decode cX6_delays 22 = .ok (.invokestatic 39, 3) := by decide +kernel
theorem dX6_delays_25 : decode cX6_delays 25 = .ok (.bipush 6, 2) := by decide +kernel
theorem dX6_delays_27 : decode cX6_delays 27 = .ok (.iadd, 1) := by decide +kernel
theorem dX6_delays_28 : decode cX6_delays 28 = .ok (.iaload, 1) := by decide +kernel
theorem dX6_delays_29 : decode cX6_delays 29 = .ok (.if_icmp .ge 40, 3) := by decide +kernel
theorem dX6_delays_32 : decode cX6_delays 32 = .ok (.aload_n 0, 1) := by decide +kernel
theorem dX6_delays_33 : decode cX6_delays 33 = .ok (.iload_n 2, 1) := by decide +kernel
theorem dX6_delays_34 : decode cX6_delays 34 = .ok (.iload_n 3, 1) := by decide +kernel
theorem dX6_delays_35 : decode cX6_delays 35 = .ok (.iconst 1, 1) := by decide +kernel
theorem dX6_delays_36 : decode cX6_delays 36 = .ok (.invokevirtual 182, 3) := by decide +kernel
theorem dX6_delays_39 : decode cX6_delays 39 = .ok (.aload_n 0, 1) := by decide +kernel
theorem dX6_delays_40 : decode cX6_delays 40 = .ok (.iload_n 2, 1) := by decide +kernel
theorem dX6_delays_41 : decode cX6_delays 41 = .ok (.iload_n 3, 1) := by decide +kernel
theorem dX6_delays_42 : decode cX6_delays 42 = .ok (.iconst 0, 1) := by decide +kernel
theorem dX6_delays_43 : decode cX6_delays 43 = .ok (.invokevirtual 182, 3) := by decide +kernel
theorem dX6_delays_46 : decode cX6_delays 46 = .ok (.isub, 1) := by decide +kernel
theorem dX6_delays_47 : decode cX6_delays 47 = .ok (.istore 4, 2) := by decide +kernel
theorem dX6_delays_49 : decode cX6_delays 49 = .ok (.iload_n 1, 1) := by decide +kernel
theorem dX6_delays_50 : decode cX6_delays 50 = .ok (.iload 4, 2) := by decide +kernel
theorem dX6_delays_52 : decode cX6_delays 52 = .ok (.ifCond .le 8, 3) := by decide +kernel
theorem dX6_delays_55 : decode cX6_delays 55 = .ok (.iload 4, 2) := by decide +kernel
theorem dX6_delays_57 : decode cX6_delays 57 = .ok (.goto 4, 3) := by decide +kernel
theorem dX6_delays_60 : decode cX6_delays 60 = .ok (.iconst 0, 1) := by decide +kernel
theorem dX6_delays_61 : decode cX6_delays 61 = .ok (.iadd, 1) := by decide +kernel
theorem dX6_delays_62 : decode cX6_delays 62 = .ok (.istore_n 1, 1) := by decide +kernel
theorem dX6_delays_63 : decode cX6_delays 63 = .ok (.iinc 3 1, 3) := by decide +kernel
theorem dX6_delays_66 : decode cX6_delays 66 = .ok (.goto (-50), 3) := by decide +kernel
theorem dX6_delays_69 : decode cX6_delays 69 = .ok (.iinc 2 1, 3) := by decide +kernel
theorem dX6_delays_72 : decode cX6_delays 72 = .ok (.goto (-68), 3) := by decide +kernel
theorem dX6_delays_75 : decode cX6_delays 75 = .ok (.iload_n 1, 1) := by decide +kernel
theorem dX6_delays_76 : decode cX6_delays 76 = .ok (.ireturn, 1) := by decide +kernel
theorem dX6_counted_0 : decode cX6_counted 0 = .ok (.iload_n 1, 1) := by decide +kernel
theorem dX6_counted_1 : decode cX6_counted 1 = .ok (.tableswitch 110 0 8 #[51, 58, 65, 72, 78, 84, 91, 98, 103], 51) := by decide +kernel
theorem dX6_counted_52 : decode cX6_counted 52 = .ok (.aload_n 0, 1) := by decide +kernel
theorem dX6_counted_53 : decode cX6_counted 53 = .ok (.getfield 7, 3) := by decide +kernel
theorem dX6_counted_56 : decode cX6_counted 56 = .ok (.iconst 0, 1) := by decide +kernel
theorem dX6_counted_57 : decode cX6_counted 57 = .ok (.iaload, 1) := by decide +kernel
theorem dX6_counted_58 : decode cX6_counted 58 = .ok (.ireturn, 1) := by decide +kernel
theorem dX6_counted_59 : decode cX6_counted 59 = .ok (.aload_n 0, 1) := by decide +kernel
theorem dX6_counted_60 : decode cX6_counted 60 = .ok (.bipush 9, 2) := by decide +kernel
theorem dX6_counted_62 : decode cX6_counted 62 = .ok (.invokevirtual 189, 3) := by decide +kernel
theorem dX6_counted_65 : decode cX6_counted 65 = .ok (.ireturn, 1) := by decide +kernel
theorem dX6_counted_66 : decode cX6_counted 66 = .ok (.aload_n 0, 1) := by decide +kernel
theorem dX6_counted_67 : decode cX6_counted 67 = .ok (.getfield 7, 3) := by decide +kernel
theorem dX6_counted_70 : decode cX6_counted 70 = .ok (.iconst 1, 1) := by decide +kernel
theorem dX6_counted_71 : decode cX6_counted 71 = .ok (.iaload, 1) := by decide +kernel
theorem dX6_counted_72 : decode cX6_counted 72 = .ok (.ireturn, 1) := by decide +kernel
theorem dX6_counted_73 : decode cX6_counted 73 = .ok (.aload_n 0, 1) := by decide +kernel
theorem dX6_counted_74 : decode cX6_counted 74 = .ok (.iconst 4, 1) := by decide +kernel
theorem dX6_counted_75 : decode cX6_counted 75 = .ok (.invokevirtual 189, 3) := by decide +kernel
theorem dX6_counted_78 : decode cX6_counted 78 = .ok (.ireturn, 1) := by decide +kernel
theorem dX6_counted_79 : decode cX6_counted 79 = .ok (.aload_n 0, 1) := by decide +kernel
theorem dX6_counted_80 : decode cX6_counted 80 = .ok (.iconst 2, 1) := by decide +kernel
theorem dX6_counted_81 : decode cX6_counted 81 = .ok (.invokevirtual 189, 3) := by decide +kernel
theorem dX6_counted_84 : decode cX6_counted 84 = .ok (.ireturn, 1) := by decide +kernel
theorem dX6_counted_85 : decode cX6_counted 85 = .ok (.aload_n 0, 1) := by decide +kernel
theorem dX6_counted_86 : decode cX6_counted 86 = .ok (.bipush 6, 2) := by decide +kernel
theorem dX6_counted_88 : decode cX6_counted 88 = .ok (.invokevirtual 189, 3) := by decide +kernel
theorem dX6_counted_91 : decode cX6_counted 91 = .ok (.ireturn, 1) := by decide +kernel
theorem dX6_counted_92 : decode cX6_counted 92 = .ok (.aload_n 0, 1) := by decide +kernel
theorem dX6_counted_93 : decode cX6_counted 93 = .ok (.bipush 8, 2) := by decide +kernel
theorem dX6_counted_95 : decode cX6_counted 95 = .ok (.invokevirtual 189, 3) := by decide +kernel
theorem dX6_counted_98 : decode cX6_counted 98 = .ok (.ireturn, 1) := by decide +kernel
theorem dX6_counted_99 : decode cX6_counted 99 = .ok (.aload_n 0, 1) := by decide +kernel
theorem dX6_counted_100 : decode cX6_counted 100 = .ok (.invokevirtual 192, 3) := by decide +kernel
theorem dX6_counted_103 : decode cX6_counted 103 = .ok (.ireturn, 1) := by decide +kernel
theorem dX6_counted_104 : decode cX6_counted 104 = .ok (.aload_n 0, 1) := by decide +kernel
theorem dX6_counted_105 : decode cX6_counted 105 = .ok (.getfield 7, 3) := by decide +kernel
theorem dX6_counted_108 : decode cX6_counted 108 = .ok (.iconst 2, 1) := by decide +kernel
theorem dX6_counted_109 : decode cX6_counted 109 = .ok (.iaload, 1) := by decide +kernel
theorem dX6_counted_110 : decode cX6_counted 110 = .ok (.ireturn, 1) := by decide +kernel
theorem dX6_counted_111 : decode cX6_counted 111 = .ok (.aload_n 0, 1) := by decide +kernel
theorem dX6_counted_112 : decode cX6_counted 112 = .ok (.getfield 32, 3) := by decide +kernel
theorem dX6_counted_115 : decode cX6_counted 115 = .ok (.ireturn, 1) := by decide +kernel
theorem dX6_count_0 : decode cX6_count 0 = .ok (.aload_n 0, 1) := by decide +kernel
theorem dX6_count_1 : decode cX6_count 1 = .ok (.iconst 0, 1) := by decide +kernel
theorem dX6_count_2 : decode cX6_count 2 = .ok (.putfield 28, 3) := by decide +kernel
theorem dX6_count_5 : decode cX6_count 5 = .ok (.iload_n 1, 1) := by decide +kernel
theorem dX6_count_6 : decode cX6_count 6 = .ok (.iconst 0, 1) := by decide +kernel
theorem dX6_count_7 : decode cX6_count 7 = .ok (.bipush 9, 2) := by decide +kernel
theorem dX6_count_9 : decode cX6_count 9 = .ok (.invokestatic 35, 3) := by decide +kernel
theorem dX6_count_12 : decode cX6_count 12 = .ok (.ifCond .eq 11, 3) := by decide +kernel
theorem dX6_count_15 : decode cX6_count 15 = .ok (.aload_n 0, 1) := by decide +kernel
theorem dX6_count_16 : decode cX6_count 16 = .ok (.iload_n 1, 1) := by decide +kernel
theorem dX6_count_17 : decode cX6_count 17 = .ok (.invokevirtual 195, 3) := by decide +kernel
theorem dX6_count_20 : decode cX6_count 20 = .ok (.goto 8, 3) := by decide +kernel
theorem dX6_count_23 : decode cX6_count 23 = .ok (.aload_n 0, 1) := by decide +kernel
theorem dX6_count_24 : decode cX6_count 24 = .ok (.iconst 1, 1) := by decide +kernel
theorem dX6_count_25 : decode cX6_count 25 = .ok (.invokevirtual 114, 3) := by decide +kernel
theorem dX6_count_28 : decode cX6_count 28 = .ok (.ireturn, 1) := by decide +kernel
theorem dX6_setting_0 : decode cX6_setting 0 = .ok (.aload_n 0, 1) := by decide +kernel
theorem dX6_setting_1 : decode cX6_setting 1 = .ok (.iconst 0, 1) := by decide +kernel
theorem dX6_setting_2 : decode cX6_setting 2 = .ok (.putfield 28, 3) := by decide +kernel
theorem dX6_setting_5 : decode cX6_setting 5 = .ok (.iload_n 1, 1) := by decide +kernel
theorem dX6_setting_6 : decode cX6_setting 6 = .ok (.iconst 0, 1) := by decide +kernel
theorem dX6_setting_7 : decode cX6_setting 7 = .ok (.iconst 2, 1) := by decide +kernel
theorem dX6_setting_8 : decode cX6_setting 8 = .ok (.invokestatic 35, 3) := by decide +kernel
theorem dX6_setting_11 : decode cX6_setting 11 = .ok (.ifCond .eq 14, 3) := by decide +kernel
theorem dX6_setting_14 : decode cX6_setting 14 = .ok (.aload_n 0, 1) := by decide +kernel
theorem dX6_setting_15 : decode cX6_setting 15 = .ok (.getfield 7, 3) := by decide +kernel
theorem dX6_setting_18 : decode cX6_setting 18 = .ok (.iconst 3, 1) := by decide +kernel
theorem dX6_setting_19 : decode cX6_setting 19 = .ok (.iload_n 1, 1) := by decide +kernel
theorem dX6_setting_20 : decode cX6_setting 20 = .ok (.iadd, 1) := by decide +kernel
theorem dX6_setting_21 : decode cX6_setting 21 = .ok (.iaload, 1) := by decide +kernel
theorem dX6_setting_22 : decode cX6_setting 22 = .ok (.goto 8, 3) := by decide +kernel
theorem dX6_setting_25 : decode cX6_setting 25 = .ok (.aload_n 0, 1) := by decide +kernel
theorem dX6_setting_26 : decode cX6_setting 26 = .ok (.iconst 1, 1) := by decide +kernel
theorem dX6_setting_27 : decode cX6_setting 27 = .ok (.invokevirtual 114, 3) := by decide +kernel
theorem dX6_setting_30 : decode cX6_setting 30 = .ok (.ireturn, 1) := by decide +kernel
theorem dX6_doneOf_0 : decode cX6_doneOf 0 = .ok (.aload_n 0, 1) := by decide +kernel
theorem dX6_doneOf_1 : decode cX6_doneOf 1 = .ok (.iload_n 1, 1) := by decide +kernel
theorem dX6_doneOf_2 : decode cX6_doneOf 2 = .ok (.invokevirtual 129, 3) := by decide +kernel
theorem dX6_doneOf_5 : decode cX6_doneOf 5 = .ok (.ifCond .ne 5, 3) := by decide +kernel
theorem dX6_doneOf_8 : decode cX6_doneOf 8 = .ok (.iconst (-1), 1) := by decide +kernel
theorem dX6_doneOf_9 : decode cX6_doneOf 9 = .ok (.ireturn, 1) := by decide +kernel
theorem dX6_doneOf_10 : decode cX6_doneOf 10 = .ok (.aload_n 0, 1) := by decide +kernel
theorem dX6_doneOf_11 : decode cX6_doneOf 11 = .ok (.invokevirtual 198, 3) := by decide +kernel
theorem dX6_doneOf_14 : decode cX6_doneOf 14 = .ok (.aload_n 0, 1) := by decide +kernel
theorem dX6_doneOf_15 : decode cX6_doneOf 15 = .ok (.iload_n 1, 1) := by decide +kernel
theorem dX6_doneOf_16 : decode cX6_doneOf 16 = .ok (.iload_n 2, 1) := by decide +kernel
theorem dX6_doneOf_17 : decode cX6_doneOf 17 = .ok (.invokevirtual 132, 3) := by decide +kernel
theorem dX6_doneOf_20 : decode cX6_doneOf 20 = .ok (.iload_n 3, 1) := by decide +kernel
theorem dX6_doneOf_21 : decode cX6_doneOf 21 = .ok (.ifCond .ne 10, 3) := by decide +kernel
theorem dX6_doneOf_24 : decode cX6_doneOf 24 = .ok (.aload_n 0, 1) := by decide +kernel
theorem dX6_doneOf_25 : decode cX6_doneOf 25 = .ok (.getfield 93, 3) := by decide +kernel
theorem dX6_doneOf_28 : decode cX6_doneOf 28 = .ok (.goto 51, 3) := by decide +kernel
theorem dX6_doneOf_31 : decode cX6_doneOf 31 = .ok (.iload_n 3, 1) := by decide +kernel
theorem dX6_doneOf_32 : decode cX6_doneOf 32 = .ok (.iconst 1, 1) := by decide +kernel
theorem dX6_doneOf_33 : decode cX6_doneOf 33 = .ok (.if_icmp .ne 10, 3) := by decide +kernel
theorem dX6_doneOf_36 : decode cX6_doneOf 36 = .ok (.aload_n 0, 1) := by decide +kernel
theorem dX6_doneOf_37 : decode cX6_doneOf 37 = .ok (.getfield 90, 3) := by decide +kernel
theorem dX6_doneOf_40 : decode cX6_doneOf 40 = .ok (.goto 39, 3) := by decide +kernel
theorem dX6_doneOf_43 : decode cX6_doneOf 43 = .ok (.iload_n 3, 1) := by decide +kernel
theorem dX6_doneOf_44 : decode cX6_doneOf 44 = .ok (.iconst 2, 1) := by decide +kernel
theorem dX6_doneOf_45 : decode cX6_doneOf 45 = .ok (.if_icmp .ne 10, 3) := by decide +kernel
theorem dX6_doneOf_48 : decode cX6_doneOf 48 = .ok (.aload_n 0, 1) := by decide +kernel
theorem dX6_doneOf_49 : decode cX6_doneOf 49 = .ok (.getfield 80, 3) := by decide +kernel
theorem dX6_doneOf_52 : decode cX6_doneOf 52 = .ok (.goto 27, 3) := by decide +kernel
theorem dX6_doneOf_55 : decode cX6_doneOf 55 = .ok (.iload_n 3, 1) := by decide +kernel
theorem dX6_doneOf_56 : decode cX6_doneOf 56 = .ok (.iconst 3, 1) := by decide +kernel
theorem dX6_doneOf_57 : decode cX6_doneOf 57 = .ok (.if_icmp .ne 17, 3) := by decide +kernel
theorem dX6_doneOf_60 : decode cX6_doneOf 60 = .ok (.aload_n 0, 1) := by decide +kernel
theorem dX6_doneOf_61 : decode cX6_doneOf 61 = .ok (.getfield 7, 3) := by decide +kernel
theorem dX6_doneOf_64 : decode cX6_doneOf 64 = .ok (.iload_n 1, 1) := by decide +kernel
theorem dX6_doneOf_65 : decode cX6_doneOf 65 = .ok (.invokestatic 39, 3) := by decide +kernel
theorem dX6_doneOf_68 : decode cX6_doneOf 68 = .ok (.iconst 2, 1) := by decide +kernel
theorem dX6_doneOf_69 : decode cX6_doneOf 69 = .ok (.iadd, 1) := by decide +kernel
theorem dX6_doneOf_70 : decode cX6_doneOf 70 = .ok (.iaload, 1) := by decide +kernel
theorem dX6_doneOf_71 : decode cX6_doneOf 71 = .ok (.goto 8, 3) := by decide +kernel
theorem dX6_doneOf_74 : decode cX6_doneOf 74 = .ok (.aload_n 0, 1) := by decide +kernel
theorem dX6_doneOf_75 : decode cX6_doneOf 75 = .ok (.iload_n 1, 1) := by decide +kernel
theorem dX6_doneOf_76 : decode cX6_doneOf 76 = .ok (.invokevirtual 170, 3) := by decide +kernel
theorem dX6_doneOf_79 : decode cX6_doneOf 79 = .ok (.istore 4, 2) := by decide +kernel
theorem dX6_doneOf_81 : decode cX6_doneOf 81 = .ok (.aload_n 0, 1) := by decide +kernel
theorem dX6_doneOf_82 : decode cX6_doneOf 82 = .ok (.invokevirtual 201, 3) := by decide +kernel
theorem dX6_doneOf_85 : decode cX6_doneOf 85 = .ok (.iload 4, 2) := by decide +kernel
theorem dX6_doneOf_87 : decode cX6_doneOf 87 = .ok (.ireturn, 1) := by decide +kernel
theorem dX6_ifDone_0 : decode cX6_ifDone 0 = .ok (.aload_n 0, 1) := by decide +kernel
theorem dX6_ifDone_1 : decode cX6_ifDone 1 = .ok (.iconst 0, 1) := by decide +kernel
theorem dX6_ifDone_2 : decode cX6_ifDone 2 = .ok (.putfield 28, 3) := by decide +kernel
theorem dX6_ifDone_5 : decode cX6_ifDone 5 = .ok (.aload_n 0, 1) := by decide +kernel
theorem dX6_ifDone_6 : decode cX6_ifDone 6 = .ok (.iload_n 1, 1) := by decide +kernel
theorem dX6_ifDone_7 : decode cX6_ifDone 7 = .ok (.invokevirtual 123, 3) := by decide +kernel
theorem dX6_ifDone_10 : decode cX6_ifDone 10 = .ok (.ifCond .ne 9, 3) := by decide +kernel
theorem dX6_ifDone_13 : decode cX6_ifDone 13 = .ok (.aload_n 0, 1) := by decide +kernel
theorem dX6_ifDone_14 : decode cX6_ifDone 14 = .ok (.iconst 1, 1) := by decide +kernel
theorem dX6_ifDone_15 : decode cX6_ifDone 15 = .ok (.invokevirtual 114, 3) := by decide +kernel
theorem dX6_ifDone_18 : decode cX6_ifDone 18 = .ok (.ireturn, 1) := by decide +kernel
theorem dX6_ifDone_19 : decode cX6_ifDone 19 = .ok (.iload_n 2, 1) := by decide +kernel
theorem dX6_ifDone_20 : decode cX6_ifDone 20 = .ok (.iconst 0, 1) := by decide +kernel
theorem dX6_ifDone_21 : decode cX6_ifDone 21 = .ok (.sipush 300, 3) := by decide +kernel
theorem dX6_ifDone_24 : decode cX6_ifDone 24 = .ok (.invokestatic 35, 3) := by decide +kernel
theorem dX6_ifDone_27 : decode cX6_ifDone 27 = .ok (.ifCond .eq 22, 3) := by decide +kernel
theorem dX6_ifDone_30 : decode cX6_ifDone 30 = .ok (.iload_n 3, 1) := by decide +kernel
theorem dX6_ifDone_31 : decode cX6_ifDone 31 = .ok (.iconst 0, 1) := by decide +kernel
theorem dX6_ifDone_32 : decode cX6_ifDone 32 = .ok (.iconst 4, 1) := by decide +kernel
theorem dX6_ifDone_33 : decode cX6_ifDone 33 = .ok (.invokestatic 35, 3) := by decide +kernel
theorem dX6_ifDone_36 : decode cX6_ifDone 36 = .ok (.ifCond .eq 13, 3) := by decide +kernel
theorem dX6_ifDone_39 : decode cX6_ifDone 39 = .ok (.aload_n 0, 1) := by decide +kernel
theorem dX6_ifDone_40 : decode cX6_ifDone 40 = .ok (.iload_n 1, 1) := by decide +kernel
theorem dX6_ifDone_41 : decode cX6_ifDone 41 = .ok (.iload_n 2, 1) := by decide +kernel
theorem dX6_ifDone_42 : decode cX6_ifDone 42 = .ok (.iload_n 3, 1) := by decide +kernel
theorem dX6_ifDone_43 : decode cX6_ifDone 43 = .ok (.invokevirtual 204, 3) := by decide +kernel
theorem dX6_ifDone_46 : decode cX6_ifDone 46 = .ok (.goto 8, 3) := by decide +kernel
theorem dX6_ifDone_49 : decode cX6_ifDone 49 = .ok (.aload_n 0, 1) := by decide +kernel
theorem dX6_ifDone_50 : decode cX6_ifDone 50 = .ok (.iconst 2, 1) := by decide +kernel
theorem dX6_ifDone_51 : decode cX6_ifDone 51 = .ok (.invokevirtual 114, 3) := by decide +kernel
theorem dX6_ifDone_54 : decode cX6_ifDone 54 = .ok (.ireturn, 1) := by decide +kernel
theorem dX6_bornBy_0 : decode cX6_bornBy 0 = .ok (.aload_n 0, 1) := by decide +kernel
theorem dX6_bornBy_1 : decode cX6_bornBy 1 = .ok (.iload_n 1, 1) := by decide +kernel
theorem dX6_bornBy_2 : decode cX6_bornBy 2 = .ok (.invokevirtual 43, 3) := by decide +kernel
theorem dX6_bornBy_5 : decode cX6_bornBy 5 = .ok (.ifCond .ne 5, 3) := by decide +kernel
theorem dX6_bornBy_8 : decode cX6_bornBy 8 = .ok (.iconst (-1), 1) := by decide +kernel
theorem dX6_bornBy_9 : decode cX6_bornBy 9 = .ok (.ireturn, 1) := by decide +kernel
theorem dX6_bornBy_10 : decode cX6_bornBy 10 = .ok (.aload_n 0, 1) := by decide +kernel
theorem dX6_bornBy_11 : decode cX6_bornBy 11 = .ok (.invokevirtual 198, 3) := by decide +kernel
theorem dX6_bornBy_14 : decode cX6_bornBy 14 = .ok (.aload_n 0, 1) := by decide +kernel
theorem dX6_bornBy_15 : decode cX6_bornBy 15 = .ok (.iload_n 1, 1) := by decide +kernel
theorem dX6_bornBy_16 : decode cX6_bornBy 16 = .ok (.ldc 207, 2) := by decide +kernel
theorem dX6_bornBy_18 : decode cX6_bornBy 18 = .ok (.invokevirtual 105, 3) := by decide +kernel
theorem dX6_bornBy_21 : decode cX6_bornBy 21 = .ok (.ldc 207, 2) := by decide +kernel
theorem dX6_bornBy_23 : decode cX6_bornBy 23 = .ok (.aload_n 0, 1) := by decide +kernel
theorem dX6_bornBy_24 : decode cX6_bornBy 24 = .ok (.getfield 93, 3) := by decide +kernel
theorem dX6_bornBy_27 : decode cX6_bornBy 27 = .ok (.isub, 1) := by decide +kernel
theorem dX6_bornBy_28 : decode cX6_bornBy 28 = .ok (.istore_n 2, 1) := by decide +kernel
theorem dX6_bornBy_29 : decode cX6_bornBy 29 = .ok (.aload_n 0, 1) := by decide +kernel
theorem dX6_bornBy_30 : decode cX6_bornBy 30 = .ok (.invokevirtual 201, 3) := by decide +kernel
theorem dX6_bornBy_33 : decode cX6_bornBy 33 = .ok (.iload_n 2, 1) := by decide +kernel
theorem dX6_bornBy_34 : decode cX6_bornBy 34 = .ok (.ireturn, 1) := by decide +kernel
theorem dX6_bears_0 : decode cX6_bears 0 = .ok (.aload_n 0, 1) := by decide +kernel
theorem dX6_bears_1 : decode cX6_bears 1 = .ok (.iconst 0, 1) := by decide +kernel
theorem dX6_bears_2 : decode cX6_bears 2 = .ok (.putfield 28, 3) := by decide +kernel
theorem dX6_bears_5 : decode cX6_bears 5 = .ok (.aload_n 0, 1) := by decide +kernel
theorem dX6_bears_6 : decode cX6_bears 6 = .ok (.iload_n 1, 1) := by decide +kernel
theorem dX6_bears_7 : decode cX6_bears 7 = .ok (.invokevirtual 123, 3) := by decide +kernel
theorem dX6_bears_10 : decode cX6_bears 10 = .ok (.ifCond .eq 11, 3) := by decide +kernel
theorem dX6_bears_13 : decode cX6_bears 13 = .ok (.aload_n 0, 1) := by decide +kernel
theorem dX6_bears_14 : decode cX6_bears 14 = .ok (.iload_n 1, 1) := by decide +kernel
theorem dX6_bears_15 : decode cX6_bears 15 = .ok (.invokevirtual 208, 3) := by decide +kernel
theorem dX6_bears_18 : decode cX6_bears 18 = .ok (.goto 8, 3) := by decide +kernel
theorem dX6_bears_21 : decode cX6_bears 21 = .ok (.aload_n 0, 1) := by decide +kernel
theorem dX6_bears_22 : decode cX6_bears 22 = .ok (.iconst 1, 1) := by decide +kernel
theorem dX6_bears_23 : decode cX6_bears 23 = .ok (.invokevirtual 114, 3) := by decide +kernel
theorem dX6_bears_26 : decode cX6_bears 26 = .ok (.ireturn, 1) := by decide +kernel
theorem dX6_weakestOf_0 : decode cX6_weakestOf 0 = .ok (.iconst (-1), 1) := by decide +kernel
theorem dX6_weakestOf_1 : decode cX6_weakestOf 1 = .ok (.istore_n 1, 1) := by decide +kernel
theorem dX6_weakestOf_2 : decode cX6_weakestOf 2 = .ok (.iconst 0, 1) := by decide +kernel
theorem dX6_weakestOf_3 : decode cX6_weakestOf 3 = .ok (.istore_n 2, 1) := by decide +kernel
theorem dX6_weakestOf_4 : decode cX6_weakestOf 4 = .ok (.iconst 0, 1) := by decide +kernel
theorem dX6_weakestOf_5 : decode cX6_weakestOf 5 = .ok (.istore_n 3, 1) := by decide +kernel
theorem dX6_weakestOf_6 : decode cX6_weakestOf 6 = .ok (.iload_n 3, 1) := by decide +kernel
theorem dX6_weakestOf_7 : decode cX6_weakestOf 7 = .ok (.aload_n 0, 1) := by decide +kernel
theorem dX6_weakestOf_8 : decode cX6_weakestOf 8 = .ok (.getfield 7, 3) := by decide +kernel
theorem dX6_weakestOf_11 : decode cX6_weakestOf 11 = .ok (.iconst 0, 1) := by decide +kernel
theorem dX6_weakestOf_12 : decode cX6_weakestOf 12 = .ok (.iaload, 1) := by decide +kernel
theorem dX6_weakestOf_13 : decode cX6_weakestOf 13 = .ok (.if_icmp .ge 63, 3) := by decide +kernel
theorem dX6_weakestOf_16 : decode cX6_weakestOf 16 = .ok (.aload_n 0, 1) := by decide +kernel
theorem dX6_weakestOf_17 : decode cX6_weakestOf 17 = .ok (.iload_n 3, 1) := by decide +kernel
theorem dX6_weakestOf_18 : decode cX6_weakestOf 18 = .ok (.invokevirtual 208, 3) := by decide +kernel
theorem dX6_weakestOf_21 : decode cX6_weakestOf 21 = .ok (.istore 4, 2) := by decide +kernel
theorem dX6_weakestOf_23 : decode cX6_weakestOf 23 = .ok (.iload 4, 2) := by decide +kernel
theorem dX6_weakestOf_25 : decode cX6_weakestOf 25 = .ok (.iconst (-1), 1) := by decide +kernel
theorem dX6_weakestOf_26 : decode cX6_weakestOf 26 = .ok (.if_icmp .eq 18, 3) := by decide +kernel
theorem dX6_weakestOf_29 : decode cX6_weakestOf 29 = .ok (.iload_n 1, 1) := by decide +kernel
theorem dX6_weakestOf_30 : decode cX6_weakestOf 30 = .ok (.iconst (-1), 1) := by decide +kernel
theorem dX6_weakestOf_31 : decode cX6_weakestOf 31 = .ok (.if_icmp .eq 9, 3) := by decide +kernel
theorem dX6_weakestOf_34 : decode cX6_weakestOf 34 = .ok (.iload 4, 2) := by decide +kernel
theorem dX6_weakestOf_36 : decode cX6_weakestOf 36 = .ok (.iload_n 2, 1) := by decide +kernel
theorem dX6_weakestOf_37 : decode cX6_weakestOf 37 = .ok (.if_icmp .ge 7, 3) := by decide +kernel
theorem dX6_weakestOf_40 : decode cX6_weakestOf 40 = .ok (.iconst 1, 1) := by decide +kernel
theorem dX6_weakestOf_41 : decode cX6_weakestOf 41 = .ok (.goto 4, 3) := by decide +kernel
theorem dX6_weakestOf_44 : decode cX6_weakestOf 44 = .ok (.iconst 0, 1) := by decide +kernel
theorem dX6_weakestOf_45 : decode cX6_weakestOf 45 = .ok (.istore 5, 2) := by decide +kernel
theorem dX6_weakestOf_47 : decode cX6_weakestOf 47 = .ok (.iload 5, 2) := by decide +kernel
theorem dX6_weakestOf_49 : decode cX6_weakestOf 49 = .ok (.ifCond .eq 7, 3) := by decide +kernel
theorem dX6_weakestOf_52 : decode cX6_weakestOf 52 = .ok (.iload_n 3, 1) := by decide +kernel
theorem dX6_weakestOf_53 : decode cX6_weakestOf 53 = .ok (.goto 4, 3) := by decide +kernel
theorem dX6_weakestOf_56 : decode cX6_weakestOf 56 = .ok (.iload_n 1, 1) := by decide +kernel
theorem dX6_weakestOf_57 : decode cX6_weakestOf 57 = .ok (.istore_n 1, 1) := by decide +kernel
theorem dX6_weakestOf_58 : decode cX6_weakestOf 58 = .ok (.iload 5, 2) := by decide +kernel
theorem dX6_weakestOf_60 : decode cX6_weakestOf 60 = .ok (.ifCond .eq 8, 3) := by decide +kernel
theorem dX6_weakestOf_63 : decode cX6_weakestOf 63 = .ok (.iload 4, 2) := by decide +kernel
theorem dX6_weakestOf_65 : decode cX6_weakestOf 65 = .ok (.goto 4, 3) := by decide +kernel
theorem dX6_weakestOf_68 : decode cX6_weakestOf 68 = .ok (.iload_n 2, 1) := by decide +kernel
theorem dX6_weakestOf_69 : decode cX6_weakestOf 69 = .ok (.istore_n 2, 1) := by decide +kernel
theorem dX6_weakestOf_70 : decode cX6_weakestOf 70 = .ok (.iinc 3 1, 3) := by decide +kernel
theorem dX6_weakestOf_73 : decode cX6_weakestOf 73 = .ok (.goto (-67), 3) := by decide +kernel
theorem dX6_weakestOf_76 : decode cX6_weakestOf 76 = .ok (.iload_n 1, 1) := by decide +kernel
theorem dX6_weakestOf_77 : decode cX6_weakestOf 77 = .ok (.ireturn, 1) := by decide +kernel
theorem dX6_weakest_0 : decode cX6_weakest 0 = .ok (.aload_n 0, 1) := by decide +kernel
theorem dX6_weakest_1 : decode cX6_weakest 1 = .ok (.iconst 0, 1) := by decide +kernel
theorem dX6_weakest_2 : decode cX6_weakest 2 = .ok (.putfield 28, 3) := by decide +kernel
theorem dX6_weakest_5 : decode cX6_weakest 5 = .ok (.aload_n 0, 1) := by decide +kernel
theorem dX6_weakest_6 : decode cX6_weakest 6 = .ok (.invokevirtual 211, 3) := by decide +kernel
theorem dX6_weakest_9 : decode cX6_weakest 9 = .ok (.ireturn, 1) := by decide +kernel
theorem dX6_leastLeft_0 : decode cX6_leastLeft 0 = .ok (.ldc 207, 2) := by decide +kernel
theorem dX6_leastLeft_2 : decode cX6_leastLeft 2 = .ok (.istore_n 1, 1) := by decide +kernel
theorem dX6_leastLeft_3 : decode cX6_leastLeft 3 = .ok (.iconst 0, 1) := by decide +kernel
theorem dX6_leastLeft_4 : decode cX6_leastLeft 4 = .ok (.istore_n 2, 1) := by decide +kernel
theorem dX6_leastLeft_5 : decode cX6_leastLeft 5 = .ok (.iload_n 2, 1) := by decide +kernel
theorem dX6_leastLeft_6 : decode cX6_leastLeft 6 = .ok (.aload_n 0, 1) := by decide +kernel
theorem dX6_leastLeft_7 : decode cX6_leastLeft 7 = .ok (.getfield 7, 3) := by decide +kernel
theorem dX6_leastLeft_10 : decode cX6_leastLeft 10 = .ok (.iconst 0, 1) := by decide +kernel
theorem dX6_leastLeft_11 : decode cX6_leastLeft 11 = .ok (.iaload, 1) := by decide +kernel
theorem dX6_leastLeft_12 : decode cX6_leastLeft 12 = .ok (.if_icmp .ge 48, 3) := by decide +kernel
theorem dX6_leastLeft_15 : decode cX6_leastLeft 15 = .ok (.aload_n 0, 1) := by decide +kernel
theorem dX6_leastLeft_16 : decode cX6_leastLeft 16 = .ok (.iload_n 2, 1) := by decide +kernel
theorem dX6_leastLeft_17 : decode cX6_leastLeft 17 = .ok (.invokevirtual 43, 3) := by decide +kernel
theorem dX6_leastLeft_20 : decode cX6_leastLeft 20 = .ok (.ifCond .eq 32, 3) := by decide +kernel
theorem dX6_leastLeft_23 : decode cX6_leastLeft 23 = .ok (.aload_n 0, 1) := by decide +kernel
theorem dX6_leastLeft_24 : decode cX6_leastLeft 24 = .ok (.getfield 7, 3) := by decide +kernel
theorem dX6_leastLeft_27 : decode cX6_leastLeft 27 = .ok (.iload_n 2, 1) := by decide +kernel
theorem dX6_leastLeft_28 : decode cX6_leastLeft 28 = .ok (.invokestatic 39, 3) := by decide +kernel
theorem dX6_leastLeft_31 : decode cX6_leastLeft 31 = .ok (.iconst 2, 1) := by decide +kernel
theorem dX6_leastLeft_32 : decode cX6_leastLeft 32 = .ok (.iadd, 1) := by decide +kernel
theorem dX6_leastLeft_33 : decode cX6_leastLeft 33 = .ok (.iaload, 1) := by decide +kernel
theorem dX6_leastLeft_34 : decode cX6_leastLeft 34 = .ok (.iload_n 1, 1) := by decide +kernel
theorem dX6_leastLeft_35 : decode cX6_leastLeft 35 = .ok (.if_icmp .ge 17, 3) := by decide +kernel
theorem dX6_leastLeft_38 : decode cX6_leastLeft 38 = .ok (.aload_n 0, 1) := by decide +kernel
theorem dX6_leastLeft_39 : decode cX6_leastLeft 39 = .ok (.getfield 7, 3) := by decide +kernel
theorem dX6_leastLeft_42 : decode cX6_leastLeft 42 = .ok (.iload_n 2, 1) := by decide +kernel
theorem dX6_leastLeft_43 : decode cX6_leastLeft 43 = .ok (.invokestatic 39, 3) := by decide +kernel
theorem dX6_leastLeft_46 : decode cX6_leastLeft 46 = .ok (.iconst 2, 1) := by decide +kernel
theorem dX6_leastLeft_47 : decode cX6_leastLeft 47 = .ok (.iadd, 1) := by decide +kernel
theorem dX6_leastLeft_48 : decode cX6_leastLeft 48 = .ok (.iaload, 1) := by decide +kernel
theorem dX6_leastLeft_49 : decode cX6_leastLeft 49 = .ok (.goto 4, 3) := by decide +kernel
theorem dX6_leastLeft_52 : decode cX6_leastLeft 52 = .ok (.iload_n 1, 1) := by decide +kernel
theorem dX6_leastLeft_53 : decode cX6_leastLeft 53 = .ok (.istore_n 1, 1) := by decide +kernel
theorem dX6_leastLeft_54 : decode cX6_leastLeft 54 = .ok (.iinc 2 1, 3) := by decide +kernel
theorem dX6_leastLeft_57 : decode cX6_leastLeft 57 = .ok (.goto (-52), 3) := by decide +kernel
theorem dX6_leastLeft_60 : decode cX6_leastLeft 60 = .ok (.iload_n 1, 1) := by decide +kernel
theorem dX6_leastLeft_61 : decode cX6_leastLeft 61 = .ok (.ireturn, 1) := by decide +kernel
theorem dX6_ruleOf_0 : decode cX6_ruleOf 0 = .ok (.aload_n 0, 1) := by decide +kernel
theorem dX6_ruleOf_1 : decode cX6_ruleOf 1 = .ok (.iload_n 1, 1) := by decide +kernel
theorem dX6_ruleOf_2 : decode cX6_ruleOf 2 = .ok (.invokevirtual 129, 3) := by decide +kernel
theorem dX6_ruleOf_5 : decode cX6_ruleOf 5 = .ok (.ifCond .ne 5, 3) := by decide +kernel
theorem dX6_ruleOf_8 : decode cX6_ruleOf 8 = .ok (.iconst (-1), 1) := by decide +kernel
theorem dX6_ruleOf_9 : decode cX6_ruleOf 9 = .ok (.ireturn, 1) := by decide +kernel
theorem dX6_ruleOf_10 : decode cX6_ruleOf 10 = .ok (.iconst (-1), 1) := by decide +kernel
theorem dX6_ruleOf_11 : decode cX6_ruleOf 11 = .ok (.istore_n 3, 1) := by decide +kernel
theorem dX6_ruleOf_12 : decode cX6_ruleOf 12 = .ok (.iconst (-1), 1) := by decide +kernel
theorem dX6_ruleOf_13 : decode cX6_ruleOf 13 = .ok (.istore 4, 2) := by decide +kernel
theorem dX6_ruleOf_15 : decode cX6_ruleOf 15 = .ok (.iconst 0, 1) := by decide +kernel
theorem dX6_ruleOf_16 : decode cX6_ruleOf 16 = .ok (.istore 5, 2) := by decide +kernel
theorem dX6_ruleOf_18 : decode cX6_ruleOf 18 = .ok (.iload 5, 2) := by decide +kernel
theorem dX6_ruleOf_20 : decode cX6_ruleOf 20 = .ok (.iconst 3, 1) := by decide +kernel
theorem dX6_ruleOf_21 : decode cX6_ruleOf 21 = .ok (.if_icmp .ge 67, 3) := by decide +kernel
theorem dX6_ruleOf_24 : decode cX6_ruleOf 24 = .ok (.aload_n 0, 1) := by decide +kernel
theorem dX6_ruleOf_25 : decode cX6_ruleOf 25 = .ok (.invokevirtual 198, 3) := by decide +kernel
theorem dX6_ruleOf_28 : decode cX6_ruleOf 28 = .ok (.aload_n 0, 1) := by decide +kernel
theorem dX6_ruleOf_29 : decode cX6_ruleOf 29 = .ok (.getfield 7, 3) := by decide +kernel
theorem dX6_ruleOf_32 : decode cX6_ruleOf 32 = .ok (.iconst 3, 1) := by decide +kernel
theorem dX6_ruleOf_33 : decode cX6_ruleOf 33 = .ok (.iload 5, 2) := by decide +kernel
theorem dX6_ruleOf_35 : decode cX6_ruleOf 35 = .ok (.iastore, 1) := by decide +kernel
theorem dX6_ruleOf_36 : decode cX6_ruleOf 36 = .ok (.aload_n 0, 1) := by decide +kernel
theorem dX6_ruleOf_37 : decode cX6_ruleOf 37 = .ok (.iload_n 1, 1) := by decide +kernel
theorem dX6_ruleOf_38 : decode cX6_ruleOf 38 = .ok (.iload_n 2, 1) := by decide +kernel
theorem dX6_ruleOf_39 : decode cX6_ruleOf 39 = .ok (.invokevirtual 132, 3) := by decide +kernel
theorem dX6_ruleOf_42 : decode cX6_ruleOf 42 = .ok (.aload_n 0, 1) := by decide +kernel
theorem dX6_ruleOf_43 : decode cX6_ruleOf 43 = .ok (.invokevirtual 214, 3) := by decide +kernel
theorem dX6_ruleOf_46 : decode cX6_ruleOf 46 = .ok (.istore 6, 2) := by decide +kernel
theorem dX6_ruleOf_48 : decode cX6_ruleOf 48 = .ok (.aload_n 0, 1) := by decide +kernel
theorem dX6_ruleOf_49 : decode cX6_ruleOf 49 = .ok (.invokevirtual 201, 3) := by decide +kernel
theorem dX6_ruleOf_52 : decode cX6_ruleOf 52 = .ok (.iload 6, 2) := by decide +kernel
theorem dX6_ruleOf_54 : decode cX6_ruleOf 54 = .ok (.iload 4, 2) := by decide +kernel
theorem dX6_ruleOf_56 : decode cX6_ruleOf 56 = .ok (.if_icmp .le 8, 3) := by decide +kernel
theorem dX6_ruleOf_59 : decode cX6_ruleOf 59 = .ok (.iload 5, 2) := by decide +kernel
theorem dX6_ruleOf_61 : decode cX6_ruleOf 61 = .ok (.goto 4, 3) := by decide +kernel
theorem dX6_ruleOf_64 : decode cX6_ruleOf 64 = .ok (.iload_n 3, 1) := by decide +kernel
theorem dX6_ruleOf_65 : decode cX6_ruleOf 65 = .ok (.istore_n 3, 1) := by decide +kernel
theorem dX6_ruleOf_66 : decode cX6_ruleOf 66 = .ok (.iload 6, 2) := by decide +kernel
theorem dX6_ruleOf_68 : decode cX6_ruleOf 68 = .ok (.iload 4, 2) := by decide +kernel
theorem dX6_ruleOf_70 : decode cX6_ruleOf 70 = .ok (.if_icmp .le 8, 3) := by decide +kernel
theorem dX6_ruleOf_73 : decode cX6_ruleOf 73 = .ok (.iload 6, 2) := by decide +kernel
theorem dX6_ruleOf_75 : decode cX6_ruleOf 75 = .ok (.goto 5, 3) := by decide +kernel
theorem dX6_ruleOf_78 : decode cX6_ruleOf 78 = .ok (.iload 4, 2) := by decide +kernel
theorem dX6_ruleOf_80 : decode cX6_ruleOf 80 = .ok (.istore 4, 2) := by decide +kernel
theorem dX6_ruleOf_82 : decode cX6_ruleOf 82 = .ok (.iinc 5 1, 3) := by decide +kernel
theorem dX6_ruleOf_85 : decode cX6_ruleOf 85 = .ok (.goto (-67), 3) := by decide +kernel
theorem dX6_ruleOf_88 : decode cX6_ruleOf 88 = .ok (.iload_n 3, 1) := by decide +kernel
theorem dX6_ruleOf_89 : decode cX6_ruleOf 89 = .ok (.ireturn, 1) := by decide +kernel
theorem dX6_bestRule_0 : decode cX6_bestRule 0 = .ok (.aload_n 0, 1) := by decide +kernel
theorem dX6_bestRule_1 : decode cX6_bestRule 1 = .ok (.iconst 0, 1) := by decide +kernel
theorem dX6_bestRule_2 : decode cX6_bestRule 2 = .ok (.putfield 28, 3) := by decide +kernel
theorem dX6_bestRule_5 : decode cX6_bestRule 5 = .ok (.aload_n 0, 1) := by decide +kernel
theorem dX6_bestRule_6 : decode cX6_bestRule 6 = .ok (.iload_n 1, 1) := by decide +kernel
theorem dX6_bestRule_7 : decode cX6_bestRule 7 = .ok (.invokevirtual 123, 3) := by decide +kernel
theorem dX6_bestRule_10 : decode cX6_bestRule 10 = .ok (.ifCond .ne 9, 3) := by decide +kernel
theorem dX6_bestRule_13 : decode cX6_bestRule 13 = .ok (.aload_n 0, 1) := by decide +kernel
theorem dX6_bestRule_14 : decode cX6_bestRule 14 = .ok (.iconst 1, 1) := by decide +kernel
theorem dX6_bestRule_15 : decode cX6_bestRule 15 = .ok (.invokevirtual 114, 3) := by decide +kernel
theorem dX6_bestRule_18 : decode cX6_bestRule 18 = .ok (.ireturn, 1) := by decide +kernel
theorem dX6_bestRule_19 : decode cX6_bestRule 19 = .ok (.iload_n 2, 1) := by decide +kernel
theorem dX6_bestRule_20 : decode cX6_bestRule 20 = .ok (.iconst 0, 1) := by decide +kernel
theorem dX6_bestRule_21 : decode cX6_bestRule 21 = .ok (.sipush 300, 3) := by decide +kernel
theorem dX6_bestRule_24 : decode cX6_bestRule 24 = .ok (.invokestatic 35, 3) := by decide +kernel
theorem dX6_bestRule_27 : decode cX6_bestRule 27 = .ok (.ifCond .eq 12, 3) := by decide +kernel
theorem dX6_bestRule_30 : decode cX6_bestRule 30 = .ok (.aload_n 0, 1) := by decide +kernel
theorem dX6_bestRule_31 : decode cX6_bestRule 31 = .ok (.iload_n 1, 1) := by decide +kernel
theorem dX6_bestRule_32 : decode cX6_bestRule 32 = .ok (.iload_n 2, 1) := by decide +kernel
theorem dX6_bestRule_33 : decode cX6_bestRule 33 = .ok (.invokevirtual 217, 3) := by decide +kernel
theorem dX6_bestRule_36 : decode cX6_bestRule 36 = .ok (.goto 8, 3) := by decide +kernel
theorem dX6_bestRule_39 : decode cX6_bestRule 39 = .ok (.aload_n 0, 1) := by decide +kernel
theorem dX6_bestRule_40 : decode cX6_bestRule 40 = .ok (.iconst 2, 1) := by decide +kernel
theorem dX6_bestRule_41 : decode cX6_bestRule 41 = .ok (.invokevirtual 114, 3) := by decide +kernel
theorem dX6_bestRule_44 : decode cX6_bestRule 44 = .ok (.ireturn, 1) := by decide +kernel
theorem dX6_shareOf_0 : decode cX6_shareOf 0 = .ok (.aload_n 0, 1) := by decide +kernel
theorem dX6_shareOf_1 : decode cX6_shareOf 1 = .ok (.invokevirtual 192, 3) := by decide +kernel
theorem dX6_shareOf_4 : decode cX6_shareOf 4 = .ok (.istore_n 1, 1) := by decide +kernel
theorem dX6_shareOf_5 : decode cX6_shareOf 5 = .ok (.iload_n 1, 1) := by decide +kernel
theorem dX6_shareOf_6 : decode cX6_shareOf 6 = .ok (.ifCond .ne 7, 3) := by decide +kernel
theorem dX6_shareOf_9 : decode cX6_shareOf 9 = .ok (.dconst 0, 1) := by decide +kernel
theorem dX6_shareOf_10 : decode cX6_shareOf 10 = .ok (.goto 13, 3) := by decide +kernel
theorem dX6_shareOf_13 : decode cX6_shareOf 13 = .ok (.aload_n 0, 1) := by decide +kernel
theorem dX6_shareOf_14 : decode cX6_shareOf 14 = .ok (.bipush 6, 2) := by decide +kernel
theorem dX6_shareOf_16 : decode cX6_shareOf 16 = .ok (.invokevirtual 189, 3) := by decide +kernel
theorem dX6_shareOf_19 : decode cX6_shareOf 19 = .ok (.i2d, 1) := by decide +kernel
theorem dX6_shareOf_20 : decode cX6_shareOf 20 = .ok (.iload_n 1, 1) := by decide +kernel
theorem dX6_shareOf_21 : decode cX6_shareOf 21 = .ok (.i2d, 1) := by decide +kernel
theorem dX6_shareOf_22 : decode cX6_shareOf 22 = .ok (.ddiv, 1) := by decide +kernel
theorem dX6_shareOf_23 : decode cX6_shareOf 23 = .ok (.dreturn, 1) := by decide +kernel
theorem dX6_lateShare_0 : decode cX6_lateShare 0 = .ok (.aload_n 0, 1) := by decide +kernel
theorem dX6_lateShare_1 : decode cX6_lateShare 1 = .ok (.iconst 0, 1) := by decide +kernel
theorem dX6_lateShare_2 : decode cX6_lateShare 2 = .ok (.putfield 28, 3) := by decide +kernel
theorem dX6_lateShare_5 : decode cX6_lateShare 5 = .ok (.aload_n 0, 1) := by decide +kernel
theorem dX6_lateShare_6 : decode cX6_lateShare 6 = .ok (.invokevirtual 220, 3) := by decide +kernel
theorem dX6_lateShare_9 : decode cX6_lateShare 9 = .ok (.dreturn, 1) := by decide +kernel
theorem dX6_mix_0 : decode cX6_mix 0 = .ok (.aload_n 0, 1) := by decide +kernel
theorem dX6_mix_1 : decode cX6_mix 1 = .ok (.ldc2_w 224, 3) := by decide +kernel
theorem dX6_mix_4 : decode cX6_mix 4 = .ok (.aload_n 0, 1) := by decide +kernel
theorem dX6_mix_5 : decode cX6_mix 5 = .ok (.getfield 226, 3) := by decide +kernel
theorem dX6_mix_8 : decode cX6_mix 8 = .ok (.lmul, 1) := by decide +kernel
theorem dX6_mix_9 : decode cX6_mix 9 = .ok (.lload_n 1, 1) := by decide +kernel
theorem dX6_mix_10 : decode cX6_mix 10 = .ok (.ladd, 1) := by decide +kernel
theorem dX6_mix_11 : decode cX6_mix 11 = .ok (.putfield 226, 3) := by decide +kernel
theorem dX6_mix_14 : decode cX6_mix 14 = .ok (.return_, 1) := by decide +kernel
theorem dX6_mixProject_0 : decode cX6_mixProject 0 = .ok (.iconst 0, 1) := by decide +kernel
theorem dX6_mixProject_1 : decode cX6_mixProject 1 = .ok (.istore_n 2, 1) := by decide +kernel
theorem dX6_mixProject_2 : decode cX6_mixProject 2 = .ok (.iload_n 2, 1) := by decide +kernel
theorem dX6_mixProject_3 : decode cX6_mixProject 3 = .ok (.bipush 15, 2) := by decide +kernel
theorem dX6_mixProject_5 : decode cX6_mixProject 5 = .ok (.if_icmp .ge 20, 3) := by decide +kernel
theorem dX6_mixProject_8 : decode cX6_mixProject 8 = .ok (.aload_n 0, 1) := by decide +kernel
theorem dX6_mixProject_9 : decode cX6_mixProject 9 = .ok (.aload_n 0, 1) := by decide +kernel
theorem dX6_mixProject_10 : decode cX6_mixProject 10 = .ok (.iload_n 1, 1) := by decide +kernel
theorem dX6_mixProject_11 : decode cX6_mixProject 11 = .ok (.iload_n 2, 1) := by decide +kernel
theorem dX6_mixProject_12 : decode cX6_mixProject 12 = .ok (.invokevirtual 179, 3) := by decide +kernel
theorem dX6_mixProject_15 : decode cX6_mixProject 15 = .ok (.i2l, 1) := by decide +kernel
theorem dX6_mixProject_16 : decode cX6_mixProject 16 = .ok (.invokevirtual 230, 3) := by decide +kernel
theorem dX6_mixProject_19 : decode cX6_mixProject 19 = .ok (.iinc 2 1, 3) := by decide +kernel
theorem dX6_mixProject_22 : decode cX6_mixProject 22 = .ok (.goto (-20), 3) := by decide +kernel
theorem dX6_mixProject_25 : decode cX6_mixProject 25 = .ok (.iconst 0, 1) := by decide +kernel
theorem dX6_mixProject_26 : decode cX6_mixProject 26 = .ok (.istore_n 2, 1) := by decide +kernel
theorem dX6_mixProject_27 : decode cX6_mixProject 27 = .ok (.iload_n 2, 1) := by decide +kernel
theorem dX6_mixProject_28 : decode cX6_mixProject 28 = .ok (.aload_n 0, 1) := by decide +kernel
theorem dX6_mixProject_29 : decode cX6_mixProject 29 = .ok (.getfield 7, 3) := by decide +kernel
theorem dX6_mixProject_32 : decode cX6_mixProject 32 = .ok (.iload_n 1, 1) := by decide +kernel
theorem dX6_mixProject_33 : decode cX6_mixProject 33 = .ok (.invokestatic 39, 3) := by decide +kernel
theorem dX6_mixProject_36 : decode cX6_mixProject 36 = .ok (.iconst 5, 1) := by decide +kernel
theorem dX6_mixProject_37 : decode cX6_mixProject 37 = .ok (.iadd, 1) := by decide +kernel
theorem dX6_mixProject_38 : decode cX6_mixProject 38 = .ok (.iaload, 1) := by decide +kernel
theorem dX6_mixProject_39 : decode cX6_mixProject 39 = .ok (.if_icmp .ge 35, 3) := by decide +kernel
theorem dX6_mixProject_42 : decode cX6_mixProject 42 = .ok (.iconst 0, 1) := by decide +kernel
theorem dX6_mixProject_43 : decode cX6_mixProject 43 = .ok (.istore_n 3, 1) := by decide +kernel
theorem dX6_mixProject_44 : decode cX6_mixProject 44 = .ok (.iload_n 3, 1) := by decide +kernel
theorem dX6_mixProject_45 : decode cX6_mixProject 45 = .ok (.bipush 6, 2) := by decide +kernel
theorem dX6_mixProject_47 : decode cX6_mixProject 47 = .ok (.if_icmp .ge 21, 3) := by decide +kernel
theorem dX6_mixProject_50 : decode cX6_mixProject 50 = .ok (.aload_n 0, 1) := by decide +kernel
theorem dX6_mixProject_51 : decode cX6_mixProject 51 = .ok (.aload_n 0, 1) := by decide +kernel
theorem dX6_mixProject_52 : decode cX6_mixProject 52 = .ok (.iload_n 1, 1) := by decide +kernel
theorem dX6_mixProject_53 : decode cX6_mixProject 53 = .ok (.iload_n 2, 1) := by decide +kernel
theorem dX6_mixProject_54 : decode cX6_mixProject 54 = .ok (.iload_n 3, 1) := by decide +kernel
theorem dX6_mixProject_55 : decode cX6_mixProject 55 = .ok (.invokevirtual 182, 3) := by decide +kernel
theorem dX6_mixProject_58 : decode cX6_mixProject 58 = .ok (.i2l, 1) := by decide +kernel
theorem dX6_mixProject_59 : decode cX6_mixProject 59 = .ok (.invokevirtual 230, 3) := by decide +kernel
theorem dX6_mixProject_62 : decode cX6_mixProject 62 = .ok (.iinc 3 1, 3) := by decide +kernel
theorem dX6_mixProject_65 : decode cX6_mixProject 65 = .ok (.goto (-21), 3) := by decide +kernel
theorem dX6_mixProject_68 : decode cX6_mixProject 68 = .ok (.iinc 2 1, 3) := by decide +kernel
theorem dX6_mixProject_71 : decode cX6_mixProject 71 = .ok (.goto (-44), 3) := by decide +kernel
theorem dX6_mixProject_74 : decode cX6_mixProject 74 = .ok (.iconst 0, 1) := by decide +kernel
theorem dX6_mixProject_75 : decode cX6_mixProject 75 = .ok (.istore_n 2, 1) := by decide +kernel
theorem dX6_mixProject_76 : decode cX6_mixProject 76 = .ok (.iload_n 2, 1) := by decide +kernel
theorem dX6_mixProject_77 : decode cX6_mixProject 77 = .ok (.iconst 3, 1) := by decide +kernel
theorem dX6_mixProject_78 : decode cX6_mixProject 78 = .ok (.if_icmp .ge 20, 3) := by decide +kernel
theorem dX6_mixProject_81 : decode cX6_mixProject 81 = .ok (.aload_n 0, 1) := by decide +kernel
theorem dX6_mixProject_82 : decode cX6_mixProject 82 = .ok (.aload_n 0, 1) := by decide +kernel
theorem dX6_mixProject_83 : decode cX6_mixProject 83 = .ok (.iload_n 1, 1) := by decide +kernel
theorem dX6_mixProject_84 : decode cX6_mixProject 84 = .ok (.iload_n 2, 1) := by decide +kernel
theorem dX6_mixProject_85 : decode cX6_mixProject 85 = .ok (.invokevirtual 186, 3) := by decide +kernel
theorem dX6_mixProject_88 : decode cX6_mixProject 88 = .ok (.i2l, 1) := by decide +kernel
theorem dX6_mixProject_89 : decode cX6_mixProject 89 = .ok (.invokevirtual 230, 3) := by decide +kernel
theorem dX6_mixProject_92 : decode cX6_mixProject 92 = .ok (.iinc 2 1, 3) := by decide +kernel
theorem dX6_mixProject_95 : decode cX6_mixProject 95 = .ok (.goto (-19), 3) := by decide +kernel
theorem dX6_mixProject_98 : decode cX6_mixProject 98 = .ok (.aload_n 0, 1) := by decide +kernel
theorem dX6_mixProject_99 : decode cX6_mixProject 99 = .ok (.aload_n 0, 1) := by decide +kernel
theorem dX6_mixProject_100 : decode cX6_mixProject 100 = .ok (.iload_n 1, 1) := by decide +kernel
theorem dX6_mixProject_101 : decode cX6_mixProject 101 = .ok (.invokevirtual 208, 3) := by decide +kernel
theorem dX6_mixProject_104 : decode cX6_mixProject 104 = .ok (.i2l, 1) := by decide +kernel
theorem dX6_mixProject_105 : decode cX6_mixProject 105 = .ok (.invokevirtual 230, 3) := by decide +kernel
theorem dX6_mixProject_108 : decode cX6_mixProject 108 = .ok (.iconst 0, 1) := by decide +kernel
theorem dX6_mixProject_109 : decode cX6_mixProject 109 = .ok (.istore_n 2, 1) := by decide +kernel
theorem dX6_mixProject_110 : decode cX6_mixProject 110 = .ok (.iload_n 2, 1) := by decide +kernel
theorem dX6_mixProject_111 : decode cX6_mixProject 111 = .ok (.iconst 5, 1) := by decide +kernel
theorem dX6_mixProject_112 : decode cX6_mixProject 112 = .ok (.if_icmp .ge 22, 3) := by decide +kernel
theorem dX6_mixProject_115 : decode cX6_mixProject 115 = .ok (.aload_n 0, 1) := by decide +kernel
theorem dX6_mixProject_116 : decode cX6_mixProject 116 = .ok (.aload_n 0, 1) := by decide +kernel
theorem dX6_mixProject_117 : decode cX6_mixProject 117 = .ok (.iload_n 1, 1) := by decide +kernel
theorem dX6_mixProject_118 : decode cX6_mixProject 118 = .ok (.bipush 60, 2) := by decide +kernel
theorem dX6_mixProject_120 : decode cX6_mixProject 120 = .ok (.iload_n 2, 1) := by decide +kernel
theorem dX6_mixProject_121 : decode cX6_mixProject 121 = .ok (.invokevirtual 204, 3) := by decide +kernel
theorem dX6_mixProject_124 : decode cX6_mixProject 124 = .ok (.i2l, 1) := by decide +kernel
theorem dX6_mixProject_125 : decode cX6_mixProject 125 = .ok (.invokevirtual 230, 3) := by decide +kernel
theorem dX6_mixProject_128 : decode cX6_mixProject 128 = .ok (.iinc 2 1, 3) := by decide +kernel
theorem dX6_mixProject_131 : decode cX6_mixProject 131 = .ok (.goto (-21), 3) := by decide +kernel
theorem dX6_mixProject_134 : decode cX6_mixProject 134 = .ok (.aload_n 0, 1) := by decide +kernel
theorem dX6_mixProject_135 : decode cX6_mixProject 135 = .ok (.aload_n 0, 1) := by decide +kernel
theorem dX6_mixProject_136 : decode cX6_mixProject 136 = .ok (.iload_n 1, 1) := by decide +kernel
theorem dX6_mixProject_137 : decode cX6_mixProject 137 = .ok (.bipush 60, 2) := by decide +kernel
theorem dX6_mixProject_139 : decode cX6_mixProject 139 = .ok (.invokevirtual 217, 3) := by decide +kernel
theorem dX6_mixProject_142 : decode cX6_mixProject 142 = .ok (.i2l, 1) := by decide +kernel
theorem dX6_mixProject_143 : decode cX6_mixProject 143 = .ok (.invokevirtual 230, 3) := by decide +kernel
theorem dX6_mixProject_146 : decode cX6_mixProject 146 = .ok (.iconst 0, 1) := by decide +kernel
theorem dX6_mixProject_147 : decode cX6_mixProject 147 = .ok (.istore_n 2, 1) := by decide +kernel
theorem dX6_mixProject_148 : decode cX6_mixProject 148 = .ok (.iload_n 2, 1) := by decide +kernel
theorem dX6_mixProject_149 : decode cX6_mixProject 149 = .ok (.aload_n 0, 1) := by decide +kernel
theorem dX6_mixProject_150 : decode cX6_mixProject 150 = .ok (.getfield 7, 3) := by decide +kernel
theorem dX6_mixProject_153 : decode cX6_mixProject 153 = .ok (.iconst 0, 1) := by decide +kernel
theorem dX6_mixProject_154 : decode cX6_mixProject 154 = .ok (.iaload, 1) := by decide +kernel
theorem dX6_mixProject_155 : decode cX6_mixProject 155 = .ok (.if_icmp .ge 20, 3) := by decide +kernel
theorem dX6_mixProject_158 : decode cX6_mixProject 158 = .ok (.aload_n 0, 1) := by decide +kernel
theorem dX6_mixProject_159 : decode cX6_mixProject 159 = .ok (.aload_n 0, 1) := by decide +kernel
theorem dX6_mixProject_160 : decode cX6_mixProject 160 = .ok (.iload_n 1, 1) := by decide +kernel
theorem dX6_mixProject_161 : decode cX6_mixProject 161 = .ok (.iload_n 2, 1) := by decide +kernel
theorem dX6_mixProject_162 : decode cX6_mixProject 162 = .ok (.invokevirtual 135, 3) := by decide +kernel
theorem dX6_mixProject_165 : decode cX6_mixProject 165 = .ok (.i2l, 1) := by decide +kernel
theorem dX6_mixProject_166 : decode cX6_mixProject 166 = .ok (.invokevirtual 230, 3) := by decide +kernel
theorem dX6_mixProject_169 : decode cX6_mixProject 169 = .ok (.iinc 2 1, 3) := by decide +kernel
theorem dX6_mixProject_172 : decode cX6_mixProject 172 = .ok (.goto (-24), 3) := by decide +kernel
theorem dX6_mixProject_175 : decode cX6_mixProject 175 = .ok (.return_, 1) := by decide +kernel
theorem dX6_digest_0 : decode cX6_digest 0 = .ok (.aload_n 0, 1) := by decide +kernel
theorem dX6_digest_1 : decode cX6_digest 1 = .ok (.iconst 0, 1) := by decide +kernel
theorem dX6_digest_2 : decode cX6_digest 2 = .ok (.putfield 28, 3) := by decide +kernel
theorem dX6_digest_5 : decode cX6_digest 5 = .ok (.aload_n 0, 1) := by decide +kernel
theorem dX6_digest_6 : decode cX6_digest 6 = .ok (.ldc2_w 234, 3) := by decide +kernel
theorem dX6_digest_9 : decode cX6_digest 9 = .ok (.putfield 226, 3) := by decide +kernel
theorem dX6_digest_12 : decode cX6_digest 12 = .ok (.iconst 0, 1) := by decide +kernel
theorem dX6_digest_13 : decode cX6_digest 13 = .ok (.istore_n 1, 1) := by decide +kernel
theorem dX6_digest_14 : decode cX6_digest 14 = .ok (.iload_n 1, 1) := by decide +kernel
theorem dX6_digest_15 : decode cX6_digest 15 = .ok (.bipush 10, 2) := by decide +kernel
theorem dX6_digest_17 : decode cX6_digest 17 = .ok (.if_icmp .ge 19, 3) := by decide +kernel
theorem dX6_digest_20 : decode cX6_digest 20 = .ok (.aload_n 0, 1) := by decide +kernel
theorem dX6_digest_21 : decode cX6_digest 21 = .ok (.aload_n 0, 1) := by decide +kernel
theorem dX6_digest_22 : decode cX6_digest 22 = .ok (.iload_n 1, 1) := by decide +kernel
theorem dX6_digest_23 : decode cX6_digest 23 = .ok (.invokevirtual 195, 3) := by decide +kernel
theorem dX6_digest_26 : decode cX6_digest 26 = .ok (.i2l, 1) := by decide +kernel
theorem dX6_digest_27 : decode cX6_digest 27 = .ok (.invokevirtual 230, 3) := by decide +kernel
theorem dX6_digest_30 : decode cX6_digest 30 = .ok (.iinc 1 1, 3) := by decide +kernel
theorem dX6_digest_33 : decode cX6_digest 33 = .ok (.goto (-19), 3) := by decide +kernel
theorem dX6_digest_36 : decode cX6_digest 36 = .ok (.iconst 0, 1) := by decide +kernel
theorem dX6_digest_37 : decode cX6_digest 37 = .ok (.istore_n 1, 1) := by decide +kernel
theorem dX6_digest_38 : decode cX6_digest 38 = .ok (.iload_n 1, 1) := by decide +kernel
theorem dX6_digest_39 : decode cX6_digest 39 = .ok (.iconst 3, 1) := by decide +kernel
theorem dX6_digest_40 : decode cX6_digest 40 = .ok (.if_icmp .ge 22, 3) := by decide +kernel
theorem dX6_digest_43 : decode cX6_digest 43 = .ok (.aload_n 0, 1) := by decide +kernel
theorem dX6_digest_44 : decode cX6_digest 44 = .ok (.aload_n 0, 1) := by decide +kernel
theorem dX6_digest_45 : decode cX6_digest 45 = .ok (.getfield 7, 3) := by decide +kernel
theorem dX6_digest_48 : decode cX6_digest 48 = .ok (.iconst 3, 1) := by decide +kernel
theorem dX6_digest_49 : decode cX6_digest 49 = .ok (.iload_n 1, 1) := by decide +kernel
theorem dX6_digest_50 : decode cX6_digest 50 = .ok (.iadd, 1) := by decide +kernel
theorem dX6_digest_51 : decode cX6_digest 51 = .ok (.iaload, 1) := by decide +kernel
theorem dX6_digest_52 : decode cX6_digest 52 = .ok (.i2l, 1) := by decide +kernel
theorem dX6_digest_53 : decode cX6_digest 53 = .ok (.invokevirtual 230, 3) := by decide +kernel
theorem dX6_digest_56 : decode cX6_digest 56 = .ok (.iinc 1 1, 3) := by decide +kernel
theorem dX6_digest_59 : decode cX6_digest 59 = .ok (.goto (-21), 3) := by decide +kernel
theorem dX6_digest_62 : decode cX6_digest 62 = .ok (.iconst 0, 1) := by decide +kernel
theorem dX6_digest_63 : decode cX6_digest 63 = .ok (.istore_n 1, 1) := by decide +kernel
theorem dX6_digest_64 : decode cX6_digest 64 = .ok (.iload_n 1, 1) := by decide +kernel
theorem dX6_digest_65 : decode cX6_digest 65 = .ok (.aload_n 0, 1) := by decide +kernel
theorem dX6_digest_66 : decode cX6_digest 66 = .ok (.getfield 7, 3) := by decide +kernel
theorem dX6_digest_69 : decode cX6_digest 69 = .ok (.iconst 0, 1) := by decide +kernel
theorem dX6_digest_70 : decode cX6_digest 70 = .ok (.iaload, 1) := by decide +kernel
theorem dX6_digest_71 : decode cX6_digest 71 = .ok (.if_icmp .ge 14, 3) := by decide +kernel
theorem dX6_digest_74 : decode cX6_digest 74 = .ok (.aload_n 0, 1) := by decide +kernel
theorem dX6_digest_75 : decode cX6_digest 75 = .ok (.iload_n 1, 1) := by decide +kernel
theorem dX6_digest_76 : decode cX6_digest 76 = .ok (.invokevirtual 236, 3) := by decide +kernel
theorem dX6_digest_79 : decode cX6_digest 79 = .ok (.iinc 1 1, 3) := by decide +kernel
theorem dX6_digest_82 : decode cX6_digest 82 = .ok (.goto (-18), 3) := by decide +kernel
theorem dX6_digest_85 : decode cX6_digest 85 = .ok (.iconst 0, 1) := by decide +kernel
theorem dX6_digest_86 : decode cX6_digest 86 = .ok (.istore_n 1, 1) := by decide +kernel
theorem dX6_digest_87 : decode cX6_digest 87 = .ok (.iload_n 1, 1) := by decide +kernel
theorem dX6_digest_88 : decode cX6_digest 88 = .ok (.iconst 3, 1) := by decide +kernel
theorem dX6_digest_89 : decode cX6_digest 89 = .ok (.aload_n 0, 1) := by decide +kernel
theorem dX6_digest_90 : decode cX6_digest 90 = .ok (.getfield 7, 3) := by decide +kernel
theorem dX6_digest_93 : decode cX6_digest 93 = .ok (.iconst 1, 1) := by decide +kernel
theorem dX6_digest_94 : decode cX6_digest 94 = .ok (.iaload, 1) := by decide +kernel
theorem dX6_digest_95 : decode cX6_digest 95 = .ok (.imul, 1) := by decide +kernel
theorem dX6_digest_96 : decode cX6_digest 96 = .ok (.if_icmp .ge 24, 3) := by decide +kernel
theorem dX6_digest_99 : decode cX6_digest 99 = .ok (.aload_n 0, 1) := by decide +kernel
theorem dX6_digest_100 : decode cX6_digest 100 = .ok (.aload_n 0, 1) := by decide +kernel
theorem dX6_digest_101 : decode cX6_digest 101 = .ok (.getfield 7, 3) := by decide +kernel
theorem dX6_digest_104 : decode cX6_digest 104 = .ok (.sipush 354, 3) := by decide +kernel
theorem dX6_digest_107 : decode cX6_digest 107 = .ok (.iload_n 1, 1) := by decide +kernel
theorem dX6_digest_108 : decode cX6_digest 108 = .ok (.iadd, 1) := by decide +kernel
theorem dX6_digest_109 : decode cX6_digest 109 = .ok (.iaload, 1) := by decide +kernel
theorem dX6_digest_110 : decode cX6_digest 110 = .ok (.i2l, 1) := by decide +kernel
theorem dX6_digest_111 : decode cX6_digest 111 = .ok (.invokevirtual 230, 3) := by decide +kernel
theorem dX6_digest_114 : decode cX6_digest 114 = .ok (.iinc 1 1, 3) := by decide +kernel
theorem dX6_digest_117 : decode cX6_digest 117 = .ok (.goto (-30), 3) := by decide +kernel
theorem dX6_digest_120 : decode cX6_digest 120 = .ok (.aload_n 0, 1) := by decide +kernel
theorem dX6_digest_121 : decode cX6_digest 121 = .ok (.aload_n 0, 1) := by decide +kernel
theorem dX6_digest_122 : decode cX6_digest 122 = .ok (.invokevirtual 211, 3) := by decide +kernel
theorem dX6_digest_125 : decode cX6_digest 125 = .ok (.i2l, 1) := by decide +kernel
theorem dX6_digest_126 : decode cX6_digest 126 = .ok (.invokevirtual 230, 3) := by decide +kernel
theorem dX6_digest_129 : decode cX6_digest 129 = .ok (.aload_n 0, 1) := by decide +kernel
theorem dX6_digest_130 : decode cX6_digest 130 = .ok (.aload_n 0, 1) := by decide +kernel
theorem dX6_digest_131 : decode cX6_digest 131 = .ok (.invokevirtual 220, 3) := by decide +kernel
theorem dX6_digest_134 : decode cX6_digest 134 = .ok (.invokestatic 239, 3) := by decide +kernel
theorem dX6_digest_137 : decode cX6_digest 137 = .ok (.invokevirtual 230, 3) := by decide +kernel
theorem dX6_digest_140 : decode cX6_digest 140 = .ok (.aload_n 0, 1) := by decide +kernel
theorem dX6_digest_141 : decode cX6_digest 141 = .ok (.aload_n 0, 1) := by decide +kernel
theorem dX6_digest_142 : decode cX6_digest 142 = .ok (.getfield 141, 3) := by decide +kernel
theorem dX6_digest_145 : decode cX6_digest 145 = .ok (.i2l, 1) := by decide +kernel
theorem dX6_digest_146 : decode cX6_digest 146 = .ok (.invokevirtual 230, 3) := by decide +kernel
theorem dX6_digest_149 : decode cX6_digest 149 = .ok (.iconst 0, 1) := by decide +kernel
theorem dX6_digest_150 : decode cX6_digest 150 = .ok (.istore_n 1, 1) := by decide +kernel
theorem dX6_digest_151 : decode cX6_digest 151 = .ok (.iload_n 1, 1) := by decide +kernel
theorem dX6_digest_152 : decode cX6_digest 152 = .ok (.aload_n 0, 1) := by decide +kernel
theorem dX6_digest_153 : decode cX6_digest 153 = .ok (.getfield 141, 3) := by decide +kernel
theorem dX6_digest_156 : decode cX6_digest 156 = .ok (.if_icmp .ge 20, 3) := by decide +kernel
theorem dX6_digest_159 : decode cX6_digest 159 = .ok (.aload_n 0, 1) := by decide +kernel
theorem dX6_digest_160 : decode cX6_digest 160 = .ok (.aload_n 0, 1) := by decide +kernel
theorem dX6_digest_161 : decode cX6_digest 161 = .ok (.getfield 19, 3) := by decide +kernel
theorem dX6_digest_164 : decode cX6_digest 164 = .ok (.iload_n 1, 1) := by decide +kernel
theorem dX6_digest_165 : decode cX6_digest 165 = .ok (.iaload, 1) := by decide +kernel
theorem dX6_digest_166 : decode cX6_digest 166 = .ok (.i2l, 1) := by decide +kernel
theorem dX6_digest_167 : decode cX6_digest 167 = .ok (.invokevirtual 230, 3) := by decide +kernel
theorem dX6_digest_170 : decode cX6_digest 170 = .ok (.iinc 1 1, 3) := by decide +kernel
theorem dX6_digest_173 : decode cX6_digest 173 = .ok (.goto (-22), 3) := by decide +kernel
theorem dX6_digest_176 : decode cX6_digest 176 = .ok (.aload_n 0, 1) := by decide +kernel
theorem dX6_digest_177 : decode cX6_digest 177 = .ok (.getfield 226, 3) := by decide +kernel
theorem dX6_digest_180 : decode cX6_digest 180 = .ok (.lreturn, 1) := by decide +kernel
theorem dJxe99ae_isNaN_b9ae7_0 : decode cJxe99ae_isNaN_b9ae7 0 = .ok (.dload_n 0, 1) := by decide +kernel
theorem dJxe99ae_isNaN_b9ae7_1 : decode cJxe99ae_isNaN_b9ae7 1 = .ok (.dload_n 0, 1) := by decide +kernel
theorem dJxe99ae_isNaN_b9ae7_2 : decode cJxe99ae_isNaN_b9ae7 2 = .ok (.dcmp .l, 1) := by decide +kernel
theorem dJxe99ae_isNaN_b9ae7_3 : decode cJxe99ae_isNaN_b9ae7 3 = .ok (.ifCond .eq 7, 3) := by decide +kernel
theorem dJxe99ae_isNaN_b9ae7_6 : decode cJxe99ae_isNaN_b9ae7 6 = .ok (.iconst 1, 1) := by decide +kernel
theorem dJxe99ae_isNaN_b9ae7_7 : decode cJxe99ae_isNaN_b9ae7 7 = .ok (.goto 4, 3) := by decide +kernel
theorem dJxe99ae_isNaN_b9ae7_10 : decode cJxe99ae_isNaN_b9ae7 10 = .ok (.iconst 0, 1) := by decide +kernel
theorem dJxe99ae_isNaN_b9ae7_11 : decode cJxe99ae_isNaN_b9ae7 11 = .ok (.ireturn, 1) := by decide +kernel
theorem dJxe99ae_doubleToLongBits_ccdee_0 : decode cJxe99ae_doubleToLongBits_ccdee 0 = .ok (.dload_n 0, 1) := by decide +kernel
theorem dJxe99ae_doubleToLongBits_ccdee_1 : decode cJxe99ae_doubleToLongBits_ccdee 1 = .ok (.invokestatic 122, 3) := by decide +kernel
theorem dJxe99ae_doubleToLongBits_ccdee_4 : decode cJxe99ae_doubleToLongBits_ccdee 4 = .ok (.ifCond .ne 8, 3) := by decide +kernel
theorem dJxe99ae_doubleToLongBits_ccdee_7 : decode cJxe99ae_doubleToLongBits_ccdee 7 = .ok (.dload_n 0, 1) := by decide +kernel
theorem dJxe99ae_doubleToLongBits_ccdee_8 : decode cJxe99ae_doubleToLongBits_ccdee 8 = .ok (.invokestatic 134, 3) := by decide +kernel
theorem dJxe99ae_doubleToLongBits_ccdee_11 : decode cJxe99ae_doubleToLongBits_ccdee 11 = .ok (.lreturn, 1) := by decide +kernel
theorem dJxe99ae_doubleToLongBits_ccdee_12 : decode cJxe99ae_doubleToLongBits_ccdee 12 = .ok (.ldc2_w 137, 3) := by decide +kernel
theorem dJxe99ae_doubleToLongBits_ccdee_15 : decode cJxe99ae_doubleToLongBits_ccdee 15 = .ok (.lreturn, 1) := by decide +kernel
theorem dJ9_max_7cf53_0 : decode cJ9_max_7cf53 0 = .ok (.iload_n 0, 1) := by decide +kernel
theorem dJ9_max_7cf53_1 : decode cJ9_max_7cf53 1 = .ok (.iload_n 1, 1) := by decide +kernel
theorem dJ9_max_7cf53_2 : decode cJ9_max_7cf53 2 = .ok (.if_icmp .lt 7, 3) := by decide +kernel
theorem dJ9_max_7cf53_5 : decode cJ9_max_7cf53 5 = .ok (.iload_n 0, 1) := by decide +kernel
theorem dJ9_max_7cf53_6 : decode cJ9_max_7cf53 6 = .ok (.goto 4, 3) := by decide +kernel
theorem dJ9_max_7cf53_9 : decode cJ9_max_7cf53 9 = .ok (.iload_n 1, 1) := by decide +kernel
theorem dJ9_max_7cf53_10 : decode cJ9_max_7cf53 10 = .ok (.ireturn, 1) := by decide +kernel
theorem dJ9_min_7cf53_0 : decode cJ9_min_7cf53 0 = .ok (.iload_n 0, 1) := by decide +kernel
theorem dJ9_min_7cf53_1 : decode cJ9_min_7cf53 1 = .ok (.iload_n 1, 1) := by decide +kernel
theorem dJ9_min_7cf53_2 : decode cJ9_min_7cf53 2 = .ok (.if_icmp .gt 7, 3) := by decide +kernel
theorem dJ9_min_7cf53_5 : decode cJ9_min_7cf53 5 = .ok (.iload_n 0, 1) := by decide +kernel
theorem dJ9_min_7cf53_6 : decode cJ9_min_7cf53 6 = .ok (.goto 4, 3) := by decide +kernel
theorem dJ9_min_7cf53_9 : decode cJ9_min_7cf53 9 = .ok (.iload_n 1, 1) := by decide +kernel
theorem dJ9_min_7cf53_10 : decode cJ9_min_7cf53 10 = .ok (.ireturn, 1) := by decide +kernel
theorem dL_open_0 : decode cL_open 0 = .ok (.aload_n 3, 1) := by decide +kernel
theorem dL_open_1 : decode cL_open 1 = .ok (.iconst 0, 1) := by decide +kernel
theorem dL_open_2 : decode cL_open 2 = .ok (.aload_n 0, 1) := by decide +kernel
theorem dL_open_3 : decode cL_open 3 = .ok (.iload_n 1, 1) := by decide +kernel
theorem dL_open_4 : decode cL_open 4 = .ok (.iload_n 2, 1) := by decide +kernel
theorem dL_open_5 : decode cL_open 5 = .ok (.invokevirtual 7, 3) := by decide +kernel
theorem dL_open_8 : decode cL_open 8 = .ok (.i2l, 1) := by decide +kernel
theorem dL_open_9 : decode cL_open 9 = .ok (.lastore, 1) := by decide +kernel
theorem dL_open_10 : decode cL_open 10 = .ok (.goto 11, 3) := by decide +kernel
theorem dL_open_13 : decode cL_open 13 = .ok (.astore 4, 2) := by decide +kernel
theorem dL_open_15 : decode cL_open 15 = .ok (.iconst 1, 1) := by decide +kernel
theorem dL_open_16 : decode cL_open 16 = .ok (.ireturn, 1) := by decide +kernel
theorem dL_open_17 : decode cL_open 17 = .ok (.astore 4, 2) := by decide +kernel
theorem dL_open_19 : decode cL_open 19 = .ok (.iconst 2, 1) := by decide +kernel
theorem dL_open_20 : decode cL_open 20 = .ok (.ireturn, 1) := by decide +kernel
theorem dL_open_21 : decode cL_open 21 = .ok (.iconst 0, 1) := by decide +kernel
theorem dL_open_22 : decode cL_open 22 = .ok (.ireturn, 1) := by decide +kernel
theorem dL_plan_0 : decode cL_plan 0 = .ok (.aload_n 3, 1) := by decide +kernel
theorem dL_plan_1 : decode cL_plan 1 = .ok (.iconst 0, 1) := by decide +kernel
theorem dL_plan_2 : decode cL_plan 2 = .ok (.aload_n 0, 1) := by decide +kernel
theorem dL_plan_3 : decode cL_plan 3 = .ok (.iload_n 1, 1) := by decide +kernel
theorem dL_plan_4 : decode cL_plan 4 = .ok (.iload_n 2, 1) := by decide +kernel
theorem dL_plan_5 : decode cL_plan 5 = .ok (.invokevirtual 17, 3) := by decide +kernel
theorem dL_plan_8 : decode cL_plan 8 = .ok (.i2l, 1) := by decide +kernel
theorem dL_plan_9 : decode cL_plan 9 = .ok (.lastore, 1) := by decide +kernel
theorem dL_plan_10 : decode cL_plan 10 = .ok (.goto 15, 3) := by decide +kernel
theorem dL_plan_13 : decode cL_plan 13 = .ok (.astore 4, 2) := by decide +kernel
theorem dL_plan_15 : decode cL_plan 15 = .ok (.iconst 1, 1) := by decide +kernel
theorem dL_plan_16 : decode cL_plan 16 = .ok (.ireturn, 1) := by decide +kernel
theorem dL_plan_17 : decode cL_plan 17 = .ok (.astore 4, 2) := by decide +kernel
theorem dL_plan_19 : decode cL_plan 19 = .ok (.iconst 2, 1) := by decide +kernel
theorem dL_plan_20 : decode cL_plan 20 = .ok (.ireturn, 1) := by decide +kernel
theorem dL_plan_21 : decode cL_plan 21 = .ok (.astore 4, 2) := by decide +kernel
theorem dL_plan_23 : decode cL_plan 23 = .ok (.iconst 3, 1) := by decide +kernel
theorem dL_plan_24 : decode cL_plan 24 = .ok (.ireturn, 1) := by decide +kernel
theorem dL_plan_25 : decode cL_plan 25 = .ok (.iconst 0, 1) := by decide +kernel
theorem dL_plan_26 : decode cL_plan 26 = .ok (.ireturn, 1) := by decide +kernel
theorem dL_rank_0 : decode cL_rank 0 = .ok (.aload_n 3, 1) := by decide +kernel
theorem dL_rank_1 : decode cL_rank 1 = .ok (.iconst 0, 1) := by decide +kernel
theorem dL_rank_2 : decode cL_rank 2 = .ok (.aload_n 0, 1) := by decide +kernel
theorem dL_rank_3 : decode cL_rank 3 = .ok (.iload_n 1, 1) := by decide +kernel
theorem dL_rank_4 : decode cL_rank 4 = .ok (.iload_n 2, 1) := by decide +kernel
theorem dL_rank_5 : decode cL_rank 5 = .ok (.invokevirtual 22, 3) := by decide +kernel
theorem dL_rank_8 : decode cL_rank 8 = .ok (.i2l, 1) := by decide +kernel
theorem dL_rank_9 : decode cL_rank 9 = .ok (.lastore, 1) := by decide +kernel
theorem dL_rank_10 : decode cL_rank 10 = .ok (.goto 11, 3) := by decide +kernel
theorem dL_rank_13 : decode cL_rank 13 = .ok (.astore 4, 2) := by decide +kernel
theorem dL_rank_15 : decode cL_rank 15 = .ok (.iconst 1, 1) := by decide +kernel
theorem dL_rank_16 : decode cL_rank 16 = .ok (.ireturn, 1) := by decide +kernel
theorem dL_rank_17 : decode cL_rank 17 = .ok (.astore 4, 2) := by decide +kernel
theorem dL_rank_19 : decode cL_rank 19 = .ok (.iconst 2, 1) := by decide +kernel
theorem dL_rank_20 : decode cL_rank 20 = .ok (.ireturn, 1) := by decide +kernel
theorem dL_rank_21 : decode cL_rank 21 = .ok (.iconst 0, 1) := by decide +kernel
theorem dL_rank_22 : decode cL_rank 22 = .ok (.ireturn, 1) := by decide +kernel
theorem dL_set_0 : decode cL_set 0 = .ok (.aload_n 3, 1) := by decide +kernel
theorem dL_set_1 : decode cL_set 1 = .ok (.iconst 0, 1) := by decide +kernel
theorem dL_set_2 : decode cL_set 2 = .ok (.aload_n 0, 1) := by decide +kernel
theorem dL_set_3 : decode cL_set 3 = .ok (.iload_n 1, 1) := by decide +kernel
theorem dL_set_4 : decode cL_set 4 = .ok (.iload_n 2, 1) := by decide +kernel
theorem dL_set_5 : decode cL_set 5 = .ok (.invokevirtual 25, 3) := by decide +kernel
theorem dL_set_8 : decode cL_set 8 = .ok (.i2l, 1) := by decide +kernel
theorem dL_set_9 : decode cL_set 9 = .ok (.lastore, 1) := by decide +kernel
theorem dL_set_10 : decode cL_set 10 = .ok (.goto 11, 3) := by decide +kernel
theorem dL_set_13 : decode cL_set 13 = .ok (.astore 4, 2) := by decide +kernel
theorem dL_set_15 : decode cL_set 15 = .ok (.iconst 1, 1) := by decide +kernel
theorem dL_set_16 : decode cL_set 16 = .ok (.ireturn, 1) := by decide +kernel
theorem dL_set_17 : decode cL_set 17 = .ok (.astore 4, 2) := by decide +kernel
theorem dL_set_19 : decode cL_set 19 = .ok (.iconst 2, 1) := by decide +kernel
theorem dL_set_20 : decode cL_set 20 = .ok (.ireturn, 1) := by decide +kernel
theorem dL_set_21 : decode cL_set 21 = .ok (.iconst 0, 1) := by decide +kernel
theorem dL_set_22 : decode cL_set 22 = .ok (.ireturn, 1) := by decide +kernel
theorem dL_done_0 : decode cL_done 0 = .ok (.aload_n 3, 1) := by decide +kernel
theorem dL_done_1 : decode cL_done 1 = .ok (.iconst 0, 1) := by decide +kernel
theorem dL_done_2 : decode cL_done 2 = .ok (.aload_n 0, 1) := by decide +kernel
theorem dL_done_3 : decode cL_done 3 = .ok (.iload_n 1, 1) := by decide +kernel
theorem dL_done_4 : decode cL_done 4 = .ok (.iload_n 2, 1) := by decide +kernel
theorem dL_done_5 : decode cL_done 5 = .ok (.invokevirtual 28, 3) := by decide +kernel
theorem dL_done_8 : decode cL_done 8 = .ok (.i2l, 1) := by decide +kernel
theorem dL_done_9 : decode cL_done 9 = .ok (.lastore, 1) := by decide +kernel
theorem dL_done_10 : decode cL_done 10 = .ok (.goto 15, 3) := by decide +kernel
theorem dL_done_13 : decode cL_done 13 = .ok (.astore 4, 2) := by decide +kernel
theorem dL_done_15 : decode cL_done 15 = .ok (.iconst 1, 1) := by decide +kernel
theorem dL_done_16 : decode cL_done 16 = .ok (.ireturn, 1) := by decide +kernel
theorem dL_done_17 : decode cL_done 17 = .ok (.astore 4, 2) := by decide +kernel
theorem dL_done_19 : decode cL_done 19 = .ok (.iconst 2, 1) := by decide +kernel
theorem dL_done_20 : decode cL_done 20 = .ok (.ireturn, 1) := by decide +kernel
theorem dL_done_21 : decode cL_done 21 = .ok (.astore 4, 2) := by decide +kernel
theorem dL_done_23 : decode cL_done 23 = .ok (.iconst 3, 1) := by decide +kernel
theorem dL_done_24 : decode cL_done 24 = .ok (.ireturn, 1) := by decide +kernel
theorem dL_done_25 : decode cL_done 25 = .ok (.iconst 0, 1) := by decide +kernel
theorem dL_done_26 : decode cL_done 26 = .ok (.ireturn, 1) := by decide +kernel
theorem dL_lend_0 : decode cL_lend 0 = .ok (.aload 4, 2) := by decide +kernel
theorem dL_lend_2 : decode cL_lend 2 = .ok (.iconst 0, 1) := by decide +kernel
theorem dL_lend_3 : decode cL_lend 3 = .ok (.aload_n 0, 1) := by decide +kernel
theorem dL_lend_4 : decode cL_lend 4 = .ok (.iload_n 1, 1) := by decide +kernel
theorem dL_lend_5 : decode cL_lend 5 = .ok (.iload_n 2, 1) := by decide +kernel
theorem dL_lend_6 : decode cL_lend 6 = .ok (.iload_n 3, 1) := by decide +kernel
theorem dL_lend_7 : decode cL_lend 7 = .ok (.invokevirtual 31, 3) := by decide +kernel
theorem dL_lend_10 : decode cL_lend 10 = .ok (.i2l, 1) := by decide +kernel
theorem dL_lend_11 : decode cL_lend 11 = .ok (.lastore, 1) := by decide +kernel
theorem dL_lend_12 : decode cL_lend 12 = .ok (.goto 15, 3) := by decide +kernel
theorem dL_lend_15 : decode cL_lend 15 = .ok (.astore 5, 2) := by decide +kernel
theorem dL_lend_17 : decode cL_lend 17 = .ok (.iconst 1, 1) := by decide +kernel
theorem dL_lend_18 : decode cL_lend 18 = .ok (.ireturn, 1) := by decide +kernel
theorem dL_lend_19 : decode cL_lend 19 = .ok (.astore 5, 2) := by decide +kernel
theorem dL_lend_21 : decode cL_lend 21 = .ok (.iconst 2, 1) := by decide +kernel
theorem dL_lend_22 : decode cL_lend 22 = .ok (.ireturn, 1) := by decide +kernel
theorem dL_lend_23 : decode cL_lend 23 = .ok (.astore 5, 2) := by decide +kernel
theorem dL_lend_25 : decode cL_lend 25 = .ok (.iconst 3, 1) := by decide +kernel
theorem dL_lend_26 : decode cL_lend 26 = .ok (.ireturn, 1) := by decide +kernel
theorem dL_lend_27 : decode cL_lend 27 = .ok (.iconst 0, 1) := by decide +kernel
theorem dL_lend_28 : decode cL_lend 28 = .ok (.ireturn, 1) := by decide +kernel
theorem dL_payBack_0 : decode cL_payBack 0 = .ok (.aload 4, 2) := by decide +kernel
theorem dL_payBack_2 : decode cL_payBack 2 = .ok (.iconst 0, 1) := by decide +kernel
theorem dL_payBack_3 : decode cL_payBack 3 = .ok (.aload_n 0, 1) := by decide +kernel
theorem dL_payBack_4 : decode cL_payBack 4 = .ok (.iload_n 1, 1) := by decide +kernel
theorem dL_payBack_5 : decode cL_payBack 5 = .ok (.iload_n 2, 1) := by decide +kernel
theorem dL_payBack_6 : decode cL_payBack 6 = .ok (.iload_n 3, 1) := by decide +kernel
theorem dL_payBack_7 : decode cL_payBack 7 = .ok (.invokevirtual 35, 3) := by decide +kernel
theorem dL_payBack_10 : decode cL_payBack 10 = .ok (.i2l, 1) := by decide +kernel
theorem dL_payBack_11 : decode cL_payBack 11 = .ok (.lastore, 1) := by decide +kernel
theorem dL_payBack_12 : decode cL_payBack 12 = .ok (.goto 15, 3) := by decide +kernel
theorem dL_payBack_15 : decode cL_payBack 15 = .ok (.astore 5, 2) := by decide +kernel
theorem dL_payBack_17 : decode cL_payBack 17 = .ok (.iconst 1, 1) := by decide +kernel
theorem dL_payBack_18 : decode cL_payBack 18 = .ok (.ireturn, 1) := by decide +kernel
theorem dL_payBack_19 : decode cL_payBack 19 = .ok (.astore 5, 2) := by decide +kernel
theorem dL_payBack_21 : decode cL_payBack 21 = .ok (.iconst 2, 1) := by decide +kernel
theorem dL_payBack_22 : decode cL_payBack 22 = .ok (.ireturn, 1) := by decide +kernel
theorem dL_payBack_23 : decode cL_payBack 23 = .ok (.astore 5, 2) := by decide +kernel
theorem dL_payBack_25 : decode cL_payBack 25 = .ok (.iconst 3, 1) := by decide +kernel
theorem dL_payBack_26 : decode cL_payBack 26 = .ok (.ireturn, 1) := by decide +kernel
theorem dL_payBack_27 : decode cL_payBack 27 = .ok (.iconst 0, 1) := by decide +kernel
theorem dL_payBack_28 : decode cL_payBack 28 = .ok (.ireturn, 1) := by decide +kernel
theorem dL_close_0 : decode cL_close 0 = .ok (.aload_n 2, 1) := by decide +kernel
theorem dL_close_1 : decode cL_close 1 = .ok (.iconst 0, 1) := by decide +kernel
theorem dL_close_2 : decode cL_close 2 = .ok (.aload_n 0, 1) := by decide +kernel
theorem dL_close_3 : decode cL_close 3 = .ok (.iload_n 1, 1) := by decide +kernel
theorem dL_close_4 : decode cL_close 4 = .ok (.invokevirtual 38, 3) := by decide +kernel
theorem dL_close_7 : decode cL_close 7 = .ok (.i2l, 1) := by decide +kernel
theorem dL_close_8 : decode cL_close 8 = .ok (.lastore, 1) := by decide +kernel
theorem dL_close_9 : decode cL_close 9 = .ok (.goto 9, 3) := by decide +kernel
theorem dL_close_12 : decode cL_close 12 = .ok (.astore_n 3, 1) := by decide +kernel
theorem dL_close_13 : decode cL_close 13 = .ok (.iconst 1, 1) := by decide +kernel
theorem dL_close_14 : decode cL_close 14 = .ok (.ireturn, 1) := by decide +kernel
theorem dL_close_15 : decode cL_close 15 = .ok (.astore_n 3, 1) := by decide +kernel
theorem dL_close_16 : decode cL_close 16 = .ok (.iconst 2, 1) := by decide +kernel
theorem dL_close_17 : decode cL_close 17 = .ok (.ireturn, 1) := by decide +kernel
theorem dL_close_18 : decode cL_close 18 = .ok (.iconst 0, 1) := by decide +kernel
theorem dL_close_19 : decode cL_close 19 = .ok (.ireturn, 1) := by decide +kernel
theorem dL_append_0 : decode cL_append 0 = .ok (.aload_n 2, 1) := by decide +kernel
theorem dL_append_1 : decode cL_append 1 = .ok (.iconst 0, 1) := by decide +kernel
theorem dL_append_2 : decode cL_append 2 = .ok (.aload_n 0, 1) := by decide +kernel
theorem dL_append_3 : decode cL_append 3 = .ok (.iload_n 1, 1) := by decide +kernel
theorem dL_append_4 : decode cL_append 4 = .ok (.invokevirtual 42, 3) := by decide +kernel
theorem dL_append_7 : decode cL_append 7 = .ok (.i2l, 1) := by decide +kernel
theorem dL_append_8 : decode cL_append 8 = .ok (.lastore, 1) := by decide +kernel
theorem dL_append_9 : decode cL_append 9 = .ok (.goto 9, 3) := by decide +kernel
theorem dL_append_12 : decode cL_append 12 = .ok (.astore_n 3, 1) := by decide +kernel
theorem dL_append_13 : decode cL_append 13 = .ok (.iconst 1, 1) := by decide +kernel
theorem dL_append_14 : decode cL_append 14 = .ok (.ireturn, 1) := by decide +kernel
theorem dL_append_15 : decode cL_append 15 = .ok (.astore_n 3, 1) := by decide +kernel
theorem dL_append_16 : decode cL_append 16 = .ok (.iconst 2, 1) := by decide +kernel
theorem dL_append_17 : decode cL_append 17 = .ok (.ireturn, 1) := by decide +kernel
theorem dL_append_18 : decode cL_append 18 = .ok (.iconst 0, 1) := by decide +kernel
theorem dL_append_19 : decode cL_append 19 = .ok (.ireturn, 1) := by decide +kernel
theorem dL_openAll_0 : decode cL_openAll 0 = .ok (.aload_n 1, 1) := by decide +kernel
theorem dL_openAll_1 : decode cL_openAll 1 = .ok (.iconst 0, 1) := by decide +kernel
theorem dL_openAll_2 : decode cL_openAll 2 = .ok (.aload_n 0, 1) := by decide +kernel
theorem dL_openAll_3 : decode cL_openAll 3 = .ok (.invokevirtual 45, 3) := by decide +kernel
theorem dL_openAll_6 : decode cL_openAll 6 = .ok (.i2l, 1) := by decide +kernel
theorem dL_openAll_7 : decode cL_openAll 7 = .ok (.lastore, 1) := by decide +kernel
theorem dL_openAll_8 : decode cL_openAll 8 = .ok (.goto 9, 3) := by decide +kernel
theorem dL_openAll_11 : decode cL_openAll 11 = .ok (.astore_n 2, 1) := by decide +kernel
theorem dL_openAll_12 : decode cL_openAll 12 = .ok (.iconst 1, 1) := by decide +kernel
theorem dL_openAll_13 : decode cL_openAll 13 = .ok (.ireturn, 1) := by decide +kernel
theorem dL_openAll_14 : decode cL_openAll 14 = .ok (.astore_n 2, 1) := by decide +kernel
theorem dL_openAll_15 : decode cL_openAll 15 = .ok (.iconst 2, 1) := by decide +kernel
theorem dL_openAll_16 : decode cL_openAll 16 = .ok (.ireturn, 1) := by decide +kernel
theorem dL_openAll_17 : decode cL_openAll 17 = .ok (.iconst 0, 1) := by decide +kernel
theorem dL_openAll_18 : decode cL_openAll 18 = .ok (.ireturn, 1) := by decide +kernel
theorem dL_undo_0 : decode cL_undo 0 = .ok (.aload_n 1, 1) := by decide +kernel
theorem dL_undo_1 : decode cL_undo 1 = .ok (.iconst 0, 1) := by decide +kernel
theorem dL_undo_2 : decode cL_undo 2 = .ok (.aload_n 0, 1) := by decide +kernel
theorem dL_undo_3 : decode cL_undo 3 = .ok (.invokevirtual 49, 3) := by decide +kernel
theorem dL_undo_6 : decode cL_undo 6 = .ok (.i2l, 1) := by decide +kernel
theorem dL_undo_7 : decode cL_undo 7 = .ok (.lastore, 1) := by decide +kernel
theorem dL_undo_8 : decode cL_undo 8 = .ok (.goto 6, 3) := by decide +kernel
theorem dL_undo_11 : decode cL_undo 11 = .ok (.astore_n 2, 1) := by decide +kernel
theorem dL_undo_12 : decode cL_undo 12 = .ok (.iconst 1, 1) := by decide +kernel
theorem dL_undo_13 : decode cL_undo 13 = .ok (.ireturn, 1) := by decide +kernel
theorem dL_undo_14 : decode cL_undo 14 = .ok (.iconst 0, 1) := by decide +kernel
theorem dL_undo_15 : decode cL_undo 15 = .ok (.ireturn, 1) := by decide +kernel
theorem dL_project_0 : decode cL_project 0 = .ok (.aload_n 3, 1) := by decide +kernel
theorem dL_project_1 : decode cL_project 1 = .ok (.iconst 0, 1) := by decide +kernel
theorem dL_project_2 : decode cL_project 2 = .ok (.aload_n 0, 1) := by decide +kernel
theorem dL_project_3 : decode cL_project 3 = .ok (.iload_n 1, 1) := by decide +kernel
theorem dL_project_4 : decode cL_project 4 = .ok (.iload_n 2, 1) := by decide +kernel
theorem dL_project_5 : decode cL_project 5 = .ok (.invokevirtual 52, 3) := by decide +kernel
theorem dL_project_8 : decode cL_project 8 = .ok (.i2l, 1) := by decide +kernel
theorem dL_project_9 : decode cL_project 9 = .ok (.lastore, 1) := by decide +kernel
theorem dL_project_10 : decode cL_project 10 = .ok (.goto 11, 3) := by decide +kernel
theorem dL_project_13 : decode cL_project 13 = .ok (.astore 4, 2) := by decide +kernel
theorem dL_project_15 : decode cL_project 15 = .ok (.iconst 1, 1) := by decide +kernel
theorem dL_project_16 : decode cL_project 16 = .ok (.ireturn, 1) := by decide +kernel
theorem dL_project_17 : decode cL_project 17 = .ok (.astore 4, 2) := by decide +kernel
theorem dL_project_19 : decode cL_project 19 = .ok (.iconst 2, 1) := by decide +kernel
theorem dL_project_20 : decode cL_project 20 = .ok (.ireturn, 1) := by decide +kernel
theorem dL_project_21 : decode cL_project 21 = .ok (.iconst 0, 1) := by decide +kernel
theorem dL_project_22 : decode cL_project 22 = .ok (.ireturn, 1) := by decide +kernel
theorem dL_task_0 : decode cL_task 0 = .ok (.aload 4, 2) := by decide +kernel
theorem dL_task_2 : decode cL_task 2 = .ok (.iconst 0, 1) := by decide +kernel
theorem dL_task_3 : decode cL_task 3 = .ok (.aload_n 0, 1) := by decide +kernel
theorem dL_task_4 : decode cL_task 4 = .ok (.iload_n 1, 1) := by decide +kernel
theorem dL_task_5 : decode cL_task 5 = .ok (.iload_n 2, 1) := by decide +kernel
theorem dL_task_6 : decode cL_task 6 = .ok (.iload_n 3, 1) := by decide +kernel
theorem dL_task_7 : decode cL_task 7 = .ok (.invokevirtual 55, 3) := by decide +kernel
theorem dL_task_10 : decode cL_task 10 = .ok (.i2l, 1) := by decide +kernel
theorem dL_task_11 : decode cL_task 11 = .ok (.lastore, 1) := by decide +kernel
theorem dL_task_12 : decode cL_task 12 = .ok (.goto 11, 3) := by decide +kernel
theorem dL_task_15 : decode cL_task 15 = .ok (.astore 5, 2) := by decide +kernel
theorem dL_task_17 : decode cL_task 17 = .ok (.iconst 1, 1) := by decide +kernel
theorem dL_task_18 : decode cL_task 18 = .ok (.ireturn, 1) := by decide +kernel
theorem dL_task_19 : decode cL_task 19 = .ok (.astore 5, 2) := by decide +kernel
theorem dL_task_21 : decode cL_task 21 = .ok (.iconst 2, 1) := by decide +kernel
theorem dL_task_22 : decode cL_task 22 = .ok (.ireturn, 1) := by decide +kernel
theorem dL_task_23 : decode cL_task 23 = .ok (.iconst 0, 1) := by decide +kernel
theorem dL_task_24 : decode cL_task 24 = .ok (.ireturn, 1) := by decide +kernel
theorem dL_loan_0 : decode cL_loan 0 = .ok (.aload_n 3, 1) := by decide +kernel
theorem dL_loan_1 : decode cL_loan 1 = .ok (.iconst 0, 1) := by decide +kernel
theorem dL_loan_2 : decode cL_loan 2 = .ok (.aload_n 0, 1) := by decide +kernel
theorem dL_loan_3 : decode cL_loan 3 = .ok (.iload_n 1, 1) := by decide +kernel
theorem dL_loan_4 : decode cL_loan 4 = .ok (.iload_n 2, 1) := by decide +kernel
theorem dL_loan_5 : decode cL_loan 5 = .ok (.invokevirtual 58, 3) := by decide +kernel
theorem dL_loan_8 : decode cL_loan 8 = .ok (.i2l, 1) := by decide +kernel
theorem dL_loan_9 : decode cL_loan 9 = .ok (.lastore, 1) := by decide +kernel
theorem dL_loan_10 : decode cL_loan 10 = .ok (.goto 11, 3) := by decide +kernel
theorem dL_loan_13 : decode cL_loan 13 = .ok (.astore 4, 2) := by decide +kernel
theorem dL_loan_15 : decode cL_loan 15 = .ok (.iconst 1, 1) := by decide +kernel
theorem dL_loan_16 : decode cL_loan 16 = .ok (.ireturn, 1) := by decide +kernel
theorem dL_loan_17 : decode cL_loan 17 = .ok (.astore 4, 2) := by decide +kernel
theorem dL_loan_19 : decode cL_loan 19 = .ok (.iconst 2, 1) := by decide +kernel
theorem dL_loan_20 : decode cL_loan 20 = .ok (.ireturn, 1) := by decide +kernel
theorem dL_loan_21 : decode cL_loan 21 = .ok (.iconst 0, 1) := by decide +kernel
theorem dL_loan_22 : decode cL_loan 22 = .ok (.ireturn, 1) := by decide +kernel
theorem dL_owed_0 : decode cL_owed 0 = .ok (.aload_n 3, 1) := by decide +kernel
theorem dL_owed_1 : decode cL_owed 1 = .ok (.iconst 0, 1) := by decide +kernel
theorem dL_owed_2 : decode cL_owed 2 = .ok (.aload_n 0, 1) := by decide +kernel
theorem dL_owed_3 : decode cL_owed 3 = .ok (.iload_n 1, 1) := by decide +kernel
theorem dL_owed_4 : decode cL_owed 4 = .ok (.iload_n 2, 1) := by decide +kernel
theorem dL_owed_5 : decode cL_owed 5 = .ok (.invokevirtual 61, 3) := by decide +kernel
theorem dL_owed_8 : decode cL_owed 8 = .ok (.i2l, 1) := by decide +kernel
theorem dL_owed_9 : decode cL_owed 9 = .ok (.lastore, 1) := by decide +kernel
theorem dL_owed_10 : decode cL_owed 10 = .ok (.goto 7, 3) := by decide +kernel
theorem dL_owed_13 : decode cL_owed 13 = .ok (.astore 4, 2) := by decide +kernel
theorem dL_owed_15 : decode cL_owed 15 = .ok (.iconst 1, 1) := by decide +kernel
theorem dL_owed_16 : decode cL_owed 16 = .ok (.ireturn, 1) := by decide +kernel
theorem dL_owed_17 : decode cL_owed 17 = .ok (.iconst 0, 1) := by decide +kernel
theorem dL_owed_18 : decode cL_owed 18 = .ok (.ireturn, 1) := by decide +kernel
theorem dL_lender_0 : decode cL_lender 0 = .ok (.aload_n 3, 1) := by decide +kernel
theorem dL_lender_1 : decode cL_lender 1 = .ok (.iconst 0, 1) := by decide +kernel
theorem dL_lender_2 : decode cL_lender 2 = .ok (.aload_n 0, 1) := by decide +kernel
theorem dL_lender_3 : decode cL_lender 3 = .ok (.iload_n 1, 1) := by decide +kernel
theorem dL_lender_4 : decode cL_lender 4 = .ok (.iload_n 2, 1) := by decide +kernel
theorem dL_lender_5 : decode cL_lender 5 = .ok (.invokevirtual 64, 3) := by decide +kernel
theorem dL_lender_8 : decode cL_lender 8 = .ok (.i2l, 1) := by decide +kernel
theorem dL_lender_9 : decode cL_lender 9 = .ok (.lastore, 1) := by decide +kernel
theorem dL_lender_10 : decode cL_lender 10 = .ok (.goto 11, 3) := by decide +kernel
theorem dL_lender_13 : decode cL_lender 13 = .ok (.astore 4, 2) := by decide +kernel
theorem dL_lender_15 : decode cL_lender 15 = .ok (.iconst 1, 1) := by decide +kernel
theorem dL_lender_16 : decode cL_lender 16 = .ok (.ireturn, 1) := by decide +kernel
theorem dL_lender_17 : decode cL_lender 17 = .ok (.astore 4, 2) := by decide +kernel
theorem dL_lender_19 : decode cL_lender 19 = .ok (.iconst 2, 1) := by decide +kernel
theorem dL_lender_20 : decode cL_lender 20 = .ok (.ireturn, 1) := by decide +kernel
theorem dL_lender_21 : decode cL_lender 21 = .ok (.iconst 0, 1) := by decide +kernel
theorem dL_lender_22 : decode cL_lender 22 = .ok (.ireturn, 1) := by decide +kernel
theorem dL_count_0 : decode cL_count 0 = .ok (.aload_n 2, 1) := by decide +kernel
theorem dL_count_1 : decode cL_count 1 = .ok (.iconst 0, 1) := by decide +kernel
theorem dL_count_2 : decode cL_count 2 = .ok (.aload_n 0, 1) := by decide +kernel
theorem dL_count_3 : decode cL_count 3 = .ok (.iload_n 1, 1) := by decide +kernel
theorem dL_count_4 : decode cL_count 4 = .ok (.invokevirtual 67, 3) := by decide +kernel
theorem dL_count_7 : decode cL_count 7 = .ok (.i2l, 1) := by decide +kernel
theorem dL_count_8 : decode cL_count 8 = .ok (.lastore, 1) := by decide +kernel
theorem dL_count_9 : decode cL_count 9 = .ok (.goto 6, 3) := by decide +kernel
theorem dL_count_12 : decode cL_count 12 = .ok (.astore_n 3, 1) := by decide +kernel
theorem dL_count_13 : decode cL_count 13 = .ok (.iconst 1, 1) := by decide +kernel
theorem dL_count_14 : decode cL_count 14 = .ok (.ireturn, 1) := by decide +kernel
theorem dL_count_15 : decode cL_count 15 = .ok (.iconst 0, 1) := by decide +kernel
theorem dL_count_16 : decode cL_count 16 = .ok (.ireturn, 1) := by decide +kernel
theorem dL_setting_0 : decode cL_setting 0 = .ok (.aload_n 2, 1) := by decide +kernel
theorem dL_setting_1 : decode cL_setting 1 = .ok (.iconst 0, 1) := by decide +kernel
theorem dL_setting_2 : decode cL_setting 2 = .ok (.aload_n 0, 1) := by decide +kernel
theorem dL_setting_3 : decode cL_setting 3 = .ok (.iload_n 1, 1) := by decide +kernel
theorem dL_setting_4 : decode cL_setting 4 = .ok (.invokevirtual 70, 3) := by decide +kernel
theorem dL_setting_7 : decode cL_setting 7 = .ok (.i2l, 1) := by decide +kernel
theorem dL_setting_8 : decode cL_setting 8 = .ok (.lastore, 1) := by decide +kernel
theorem dL_setting_9 : decode cL_setting 9 = .ok (.goto 6, 3) := by decide +kernel
theorem dL_setting_12 : decode cL_setting 12 = .ok (.astore_n 3, 1) := by decide +kernel
theorem dL_setting_13 : decode cL_setting 13 = .ok (.iconst 1, 1) := by decide +kernel
theorem dL_setting_14 : decode cL_setting 14 = .ok (.ireturn, 1) := by decide +kernel
theorem dL_setting_15 : decode cL_setting 15 = .ok (.iconst 0, 1) := by decide +kernel
theorem dL_setting_16 : decode cL_setting 16 = .ok (.ireturn, 1) := by decide +kernel
theorem dL_ifDone_0 : decode cL_ifDone 0 = .ok (.aload 4, 2) := by decide +kernel
theorem dL_ifDone_2 : decode cL_ifDone 2 = .ok (.iconst 0, 1) := by decide +kernel
theorem dL_ifDone_3 : decode cL_ifDone 3 = .ok (.aload_n 0, 1) := by decide +kernel
theorem dL_ifDone_4 : decode cL_ifDone 4 = .ok (.iload_n 1, 1) := by decide +kernel
theorem dL_ifDone_5 : decode cL_ifDone 5 = .ok (.iload_n 2, 1) := by decide +kernel
theorem dL_ifDone_6 : decode cL_ifDone 6 = .ok (.iload_n 3, 1) := by decide +kernel
theorem dL_ifDone_7 : decode cL_ifDone 7 = .ok (.invokevirtual 73, 3) := by decide +kernel
theorem dL_ifDone_10 : decode cL_ifDone 10 = .ok (.i2l, 1) := by decide +kernel
theorem dL_ifDone_11 : decode cL_ifDone 11 = .ok (.lastore, 1) := by decide +kernel
theorem dL_ifDone_12 : decode cL_ifDone 12 = .ok (.goto 11, 3) := by decide +kernel
theorem dL_ifDone_15 : decode cL_ifDone 15 = .ok (.astore 5, 2) := by decide +kernel
theorem dL_ifDone_17 : decode cL_ifDone 17 = .ok (.iconst 1, 1) := by decide +kernel
theorem dL_ifDone_18 : decode cL_ifDone 18 = .ok (.ireturn, 1) := by decide +kernel
theorem dL_ifDone_19 : decode cL_ifDone 19 = .ok (.astore 5, 2) := by decide +kernel
theorem dL_ifDone_21 : decode cL_ifDone 21 = .ok (.iconst 2, 1) := by decide +kernel
theorem dL_ifDone_22 : decode cL_ifDone 22 = .ok (.ireturn, 1) := by decide +kernel
theorem dL_ifDone_23 : decode cL_ifDone 23 = .ok (.iconst 0, 1) := by decide +kernel
theorem dL_ifDone_24 : decode cL_ifDone 24 = .ok (.ireturn, 1) := by decide +kernel
theorem dL_bears_0 : decode cL_bears 0 = .ok (.aload_n 2, 1) := by decide +kernel
theorem dL_bears_1 : decode cL_bears 1 = .ok (.iconst 0, 1) := by decide +kernel
theorem dL_bears_2 : decode cL_bears 2 = .ok (.aload_n 0, 1) := by decide +kernel
theorem dL_bears_3 : decode cL_bears 3 = .ok (.iload_n 1, 1) := by decide +kernel
theorem dL_bears_4 : decode cL_bears 4 = .ok (.invokevirtual 76, 3) := by decide +kernel
theorem dL_bears_7 : decode cL_bears 7 = .ok (.i2l, 1) := by decide +kernel
theorem dL_bears_8 : decode cL_bears 8 = .ok (.lastore, 1) := by decide +kernel
theorem dL_bears_9 : decode cL_bears 9 = .ok (.goto 6, 3) := by decide +kernel
theorem dL_bears_12 : decode cL_bears 12 = .ok (.astore_n 3, 1) := by decide +kernel
theorem dL_bears_13 : decode cL_bears 13 = .ok (.iconst 1, 1) := by decide +kernel
theorem dL_bears_14 : decode cL_bears 14 = .ok (.ireturn, 1) := by decide +kernel
theorem dL_bears_15 : decode cL_bears 15 = .ok (.iconst 0, 1) := by decide +kernel
theorem dL_bears_16 : decode cL_bears 16 = .ok (.ireturn, 1) := by decide +kernel
theorem dL_bestRule_0 : decode cL_bestRule 0 = .ok (.aload_n 3, 1) := by decide +kernel
theorem dL_bestRule_1 : decode cL_bestRule 1 = .ok (.iconst 0, 1) := by decide +kernel
theorem dL_bestRule_2 : decode cL_bestRule 2 = .ok (.aload_n 0, 1) := by decide +kernel
theorem dL_bestRule_3 : decode cL_bestRule 3 = .ok (.iload_n 1, 1) := by decide +kernel
theorem dL_bestRule_4 : decode cL_bestRule 4 = .ok (.iload_n 2, 1) := by decide +kernel
theorem dL_bestRule_5 : decode cL_bestRule 5 = .ok (.invokevirtual 79, 3) := by decide +kernel
theorem dL_bestRule_8 : decode cL_bestRule 8 = .ok (.i2l, 1) := by decide +kernel
theorem dL_bestRule_9 : decode cL_bestRule 9 = .ok (.lastore, 1) := by decide +kernel
theorem dL_bestRule_10 : decode cL_bestRule 10 = .ok (.goto 11, 3) := by decide +kernel
theorem dL_bestRule_13 : decode cL_bestRule 13 = .ok (.astore 4, 2) := by decide +kernel
theorem dL_bestRule_15 : decode cL_bestRule 15 = .ok (.iconst 1, 1) := by decide +kernel
theorem dL_bestRule_16 : decode cL_bestRule 16 = .ok (.ireturn, 1) := by decide +kernel
theorem dL_bestRule_17 : decode cL_bestRule 17 = .ok (.astore 4, 2) := by decide +kernel
theorem dL_bestRule_19 : decode cL_bestRule 19 = .ok (.iconst 2, 1) := by decide +kernel
theorem dL_bestRule_20 : decode cL_bestRule 20 = .ok (.ireturn, 1) := by decide +kernel
theorem dL_bestRule_21 : decode cL_bestRule 21 = .ok (.iconst 0, 1) := by decide +kernel
theorem dL_bestRule_22 : decode cL_bestRule 22 = .ok (.ireturn, 1) := by decide +kernel
theorem dL_law_0 : decode cL_law 0 = .ok (.new 8, 3) := by decide +kernel
theorem dL_law_3 : decode cL_law 3 = .ok (.dup, 1) := by decide +kernel
theorem dL_law_4 : decode cL_law 4 = .ok (.invokespecial 82, 3) := by decide +kernel
theorem dL_law_7 : decode cL_law 7 = .ok (.astore_n 1, 1) := by decide +kernel
theorem dL_law_8 : decode cL_law 8 = .ok (.new 83, 3) := by decide +kernel
theorem dL_law_11 : decode cL_law 11 = .ok (.dup, 1) := by decide +kernel
theorem dL_law_12 : decode cL_law 12 = .ok (.invokespecial 85, 3) := by decide +kernel
theorem dL_law_15 : decode cL_law 15 = .ok (.astore_n 2, 1) := by decide +kernel
theorem dL_law_16 : decode cL_law 16 = .ok (.iconst 1, 1) := by decide +kernel
theorem dL_law_17 : decode cL_law 17 = .ok (.newarray .long, 2) := by decide +kernel
theorem dL_law_19 : decode cL_law 19 = .ok (.astore_n 3, 1) := by decide +kernel
theorem dL_law_20 : decode cL_law 20 = .ok (.iconst 0, 1) := by decide +kernel
theorem dL_law_21 : decode cL_law 21 = .ok (.istore 4, 2) := by decide +kernel
theorem dL_law_23 : decode cL_law 23 = .ok (.iload 4, 2) := by decide +kernel
theorem dL_law_25 : decode cL_law 25 = .ok (.aload_n 0, 1) := by decide +kernel
theorem dL_law_26 : decode cL_law 26 = .ok (.arraylength, 1) := by decide +kernel
theorem dL_law_27 : decode cL_law 27 = .ok (.iconst 4, 1) := by decide +kernel
theorem dL_law_28 : decode cL_law 28 = .ok (.isub, 1) := by decide +kernel
theorem dL_law_29 : decode cL_law 29 = .ok (.if_icmp .gt 1595, 3) := by decide +kernel
theorem dL_law_32 : decode cL_law 32 = .ok (.aload_n 0, 1) := by decide +kernel
theorem dL_law_33 : decode cL_law 33 = .ok (.iload 4, 2) := by decide +kernel
theorem dL_law_35 : decode cL_law 35 = .ok (.iaload, 1) := by decide +kernel
theorem dL_law_36 : decode cL_law 36 = .ok (.bipush 31, 2) := by decide +kernel
theorem dL_law_38 : decode cL_law 38 = .ok (.iand, 1) := by decide +kernel
theorem dL_law_39 : decode cL_law 39 = .ok (.tableswitch 1579 0 25 #[117, 185, 253, 321, 389, 457, 537, 617, 673, 729, 742, 755, 799, 843, 911, 991, 1059, 1127, 1195, 1251, 1307, 1387, 1443, 1456, 1524, 1565], 117) := by decide +kernel
theorem dL_law_156 : decode cL_law 156 = .ok (.aload_n 1, 1) := by decide +kernel
theorem dL_law_157 : decode cL_law 157 = .ok (.aload_n 0, 1) := by decide +kernel
theorem dL_law_158 : decode cL_law 158 = .ok (.iload 4, 2) := by decide +kernel
theorem dL_law_160 : decode cL_law 160 = .ok (.iconst 1, 1) := by decide +kernel
theorem dL_law_161 : decode cL_law 161 = .ok (.iadd, 1) := by decide +kernel
theorem dL_law_162 : decode cL_law 162 = .ok (.iaload, 1) := by decide +kernel
theorem dL_law_163 : decode cL_law 163 = .ok (.aload_n 0, 1) := by decide +kernel
theorem dL_law_164 : decode cL_law 164 = .ok (.iload 4, 2) := by decide +kernel
theorem dL_law_166 : decode cL_law 166 = .ok (.iconst 2, 1) := by decide +kernel
theorem dL_law_167 : decode cL_law 167 = .ok (.iadd, 1) := by decide +kernel
theorem dL_law_168 : decode cL_law 168 = .ok (.iaload, 1) := by decide +kernel
theorem dL_law_169 : decode cL_law 169 = .ok (.aload_n 3, 1) := by decide +kernel
theorem dL_law_170 : decode cL_law 170 = .ok (.invokestatic 86, 3) := by decide +kernel
theorem dL_law_173 : decode cL_law 173 = .ok (.istore 5, 2) := by decide +kernel
theorem dL_law_175 : decode cL_law 175 = .ok (.aload_n 2, 1) := by decide +kernel
theorem dL_law_176 : decode cL_law 176 = .ok (.aload_n 0, 1) := by decide +kernel
theorem dL_law_177 : decode cL_law 177 = .ok (.iload 4, 2) := by decide +kernel
theorem dL_law_179 : decode cL_law 179 = .ok (.iconst 1, 1) := by decide +kernel
theorem dL_law_180 : decode cL_law 180 = .ok (.iadd, 1) := by decide +kernel
theorem dL_law_181 : decode cL_law 181 = .ok (.iaload, 1) := by decide +kernel
theorem dL_law_182 : decode cL_law 182 = .ok (.aload_n 0, 1) := by decide +kernel
theorem dL_law_183 : decode cL_law 183 = .ok (.iload 4, 2) := by decide +kernel
theorem dL_law_185 : decode cL_law 185 = .ok (.iconst 2, 1) := by decide +kernel
theorem dL_law_186 : decode cL_law 186 = .ok (.iadd, 1) := by decide +kernel
theorem dL_law_187 : decode cL_law 187 = .ok (.iaload, 1) := by decide +kernel
theorem dL_law_188 : decode cL_law 188 = .ok (.invokevirtual 91, 3) := by decide +kernel
theorem dL_law_191 : decode cL_law 191 = .ok (.istore 6, 2) := by decide +kernel
theorem dL_law_193 : decode cL_law 193 = .ok (.aload_n 2, 1) := by decide +kernel
theorem dL_law_194 : decode cL_law 194 = .ok (.invokevirtual 92, 3) := by decide +kernel
theorem dL_law_197 : decode cL_law 197 = .ok (.iload 5, 2) := by decide +kernel
theorem dL_law_199 : decode cL_law 199 = .ok (.if_icmp .eq 5, 3) := by decide +kernel
theorem dL_law_202 : decode cL_law 202 = .ok (.iconst 0, 1) := by decide +kernel
theorem dL_law_203 : decode cL_law 203 = .ok (.ireturn, 1) := by decide +kernel
theorem dL_law_204 : decode cL_law 204 = .ok (.iload 5, 2) := by decide +kernel
theorem dL_law_206 : decode cL_law 206 = .ok (.ifCond .ne 15, 3) := by decide +kernel
theorem dL_law_209 : decode cL_law 209 = .ok (.aload_n 3, 1) := by decide +kernel
theorem dL_law_210 : decode cL_law 210 = .ok (.iconst 0, 1) := by decide +kernel
theorem dL_law_211 : decode cL_law 211 = .ok (.laload, 1) := by decide +kernel
theorem dL_law_212 : decode cL_law 212 = .ok (.iload 6, 2) := by decide +kernel
theorem dL_law_214 : decode cL_law 214 = .ok (.i2l, 1) := by decide +kernel
theorem dL_law_215 : decode cL_law 215 = .ok (.lcmp, 1) := by decide +kernel
theorem dL_law_216 : decode cL_law 216 = .ok (.ifCond .eq 5, 3) := by decide +kernel
theorem dL_law_219 : decode cL_law 219 = .ok (.iconst 0, 1) := by decide +kernel
theorem dL_law_220 : decode cL_law 220 = .ok (.ireturn, 1) := by decide +kernel
theorem dL_law_221 : decode cL_law 221 = .ok (.goto 1397, 3) := by decide +kernel
theorem dL_law_224 : decode cL_law 224 = .ok (.aload_n 1, 1) := by decide +kernel
theorem dL_law_225 : decode cL_law 225 = .ok (.aload_n 0, 1) := by decide +kernel
theorem dL_law_226 : decode cL_law 226 = .ok (.iload 4, 2) := by decide +kernel
theorem dL_law_228 : decode cL_law 228 = .ok (.iconst 1, 1) := by decide +kernel
theorem dL_law_229 : decode cL_law 229 = .ok (.iadd, 1) := by decide +kernel
theorem dL_law_230 : decode cL_law 230 = .ok (.iaload, 1) := by decide +kernel
theorem dL_law_231 : decode cL_law 231 = .ok (.aload_n 0, 1) := by decide +kernel
theorem dL_law_232 : decode cL_law 232 = .ok (.iload 4, 2) := by decide +kernel
theorem dL_law_234 : decode cL_law 234 = .ok (.iconst 2, 1) := by decide +kernel
theorem dL_law_235 : decode cL_law 235 = .ok (.iadd, 1) := by decide +kernel
theorem dL_law_236 : decode cL_law 236 = .ok (.iaload, 1) := by decide +kernel
theorem dL_law_237 : decode cL_law 237 = .ok (.aload_n 3, 1) := by decide +kernel
theorem dL_law_238 : decode cL_law 238 = .ok (.invokestatic 95, 3) := by decide +kernel
theorem dL_law_241 : decode cL_law 241 = .ok (.istore 5, 2) := by decide +kernel
theorem dL_law_243 : decode cL_law 243 = .ok (.aload_n 2, 1) := by decide +kernel
theorem dL_law_244 : decode cL_law 244 = .ok (.aload_n 0, 1) := by decide +kernel
theorem dL_law_245 : decode cL_law 245 = .ok (.iload 4, 2) := by decide +kernel
theorem dL_law_247 : decode cL_law 247 = .ok (.iconst 1, 1) := by decide +kernel
theorem dL_law_248 : decode cL_law 248 = .ok (.iadd, 1) := by decide +kernel
theorem dL_law_249 : decode cL_law 249 = .ok (.iaload, 1) := by decide +kernel
theorem dL_law_250 : decode cL_law 250 = .ok (.aload_n 0, 1) := by decide +kernel
theorem dL_law_251 : decode cL_law 251 = .ok (.iload 4, 2) := by decide +kernel
theorem dL_law_253 : decode cL_law 253 = .ok (.iconst 2, 1) := by decide +kernel
theorem dL_law_254 : decode cL_law 254 = .ok (.iadd, 1) := by decide +kernel
theorem dL_law_255 : decode cL_law 255 = .ok (.iaload, 1) := by decide +kernel
theorem dL_law_256 : decode cL_law 256 = .ok (.invokevirtual 97, 3) := by decide +kernel
theorem dL_law_259 : decode cL_law 259 = .ok (.istore 6, 2) := by decide +kernel
theorem dL_law_261 : decode cL_law 261 = .ok (.aload_n 2, 1) := by decide +kernel
theorem dL_law_262 : decode cL_law 262 = .ok (.invokevirtual 92, 3) := by decide +kernel
theorem dL_law_265 : decode cL_law 265 = .ok (.iload 5, 2) := by decide +kernel
theorem dL_law_267 : decode cL_law 267 = .ok (.if_icmp .eq 5, 3) := by decide +kernel
theorem dL_law_270 : decode cL_law 270 = .ok (.iconst 0, 1) := by decide +kernel
theorem dL_law_271 : decode cL_law 271 = .ok (.ireturn, 1) := by decide +kernel
theorem dL_law_272 : decode cL_law 272 = .ok (.iload 5, 2) := by decide +kernel
theorem dL_law_274 : decode cL_law 274 = .ok (.ifCond .ne 15, 3) := by decide +kernel
theorem dL_law_277 : decode cL_law 277 = .ok (.aload_n 3, 1) := by decide +kernel
theorem dL_law_278 : decode cL_law 278 = .ok (.iconst 0, 1) := by decide +kernel
theorem dL_law_279 : decode cL_law 279 = .ok (.laload, 1) := by decide +kernel
theorem dL_law_280 : decode cL_law 280 = .ok (.iload 6, 2) := by decide +kernel
theorem dL_law_282 : decode cL_law 282 = .ok (.i2l, 1) := by decide +kernel
theorem dL_law_283 : decode cL_law 283 = .ok (.lcmp, 1) := by decide +kernel
theorem dL_law_284 : decode cL_law 284 = .ok (.ifCond .eq 5, 3) := by decide +kernel
theorem dL_law_287 : decode cL_law 287 = .ok (.iconst 0, 1) := by decide +kernel
theorem dL_law_288 : decode cL_law 288 = .ok (.ireturn, 1) := by decide +kernel
theorem dL_law_289 : decode cL_law 289 = .ok (.goto 1329, 3) := by decide +kernel
theorem dL_law_292 : decode cL_law 292 = .ok (.aload_n 1, 1) := by decide +kernel
theorem dL_law_293 : decode cL_law 293 = .ok (.aload_n 0, 1) := by decide +kernel
theorem dL_law_294 : decode cL_law 294 = .ok (.iload 4, 2) := by decide +kernel
theorem dL_law_296 : decode cL_law 296 = .ok (.iconst 1, 1) := by decide +kernel
theorem dL_law_297 : decode cL_law 297 = .ok (.iadd, 1) := by decide +kernel
theorem dL_law_298 : decode cL_law 298 = .ok (.iaload, 1) := by decide +kernel
theorem dL_law_299 : decode cL_law 299 = .ok (.aload_n 0, 1) := by decide +kernel
theorem dL_law_300 : decode cL_law 300 = .ok (.iload 4, 2) := by decide +kernel
theorem dL_law_302 : decode cL_law 302 = .ok (.iconst 2, 1) := by decide +kernel
theorem dL_law_303 : decode cL_law 303 = .ok (.iadd, 1) := by decide +kernel
theorem dL_law_304 : decode cL_law 304 = .ok (.iaload, 1) := by decide +kernel
theorem dL_law_305 : decode cL_law 305 = .ok (.aload_n 3, 1) := by decide +kernel
theorem dL_law_306 : decode cL_law 306 = .ok (.invokestatic 98, 3) := by decide +kernel
theorem dL_law_309 : decode cL_law 309 = .ok (.istore 5, 2) := by decide +kernel
theorem dL_law_311 : decode cL_law 311 = .ok (.aload_n 2, 1) := by decide +kernel
theorem dL_law_312 : decode cL_law 312 = .ok (.aload_n 0, 1) := by decide +kernel
theorem dL_law_313 : decode cL_law 313 = .ok (.iload 4, 2) := by decide +kernel
theorem dL_law_315 : decode cL_law 315 = .ok (.iconst 1, 1) := by decide +kernel
theorem dL_law_316 : decode cL_law 316 = .ok (.iadd, 1) := by decide +kernel
theorem dL_law_317 : decode cL_law 317 = .ok (.iaload, 1) := by decide +kernel
theorem dL_law_318 : decode cL_law 318 = .ok (.aload_n 0, 1) := by decide +kernel
theorem dL_law_319 : decode cL_law 319 = .ok (.iload 4, 2) := by decide +kernel
theorem dL_law_321 : decode cL_law 321 = .ok (.iconst 2, 1) := by decide +kernel
theorem dL_law_322 : decode cL_law 322 = .ok (.iadd, 1) := by decide +kernel
theorem dL_law_323 : decode cL_law 323 = .ok (.iaload, 1) := by decide +kernel
theorem dL_law_324 : decode cL_law 324 = .ok (.invokevirtual 100, 3) := by decide +kernel
theorem dL_law_327 : decode cL_law 327 = .ok (.istore 6, 2) := by decide +kernel
theorem dL_law_329 : decode cL_law 329 = .ok (.aload_n 2, 1) := by decide +kernel
theorem dL_law_330 : decode cL_law 330 = .ok (.invokevirtual 92, 3) := by decide +kernel
theorem dL_law_333 : decode cL_law 333 = .ok (.iload 5, 2) := by decide +kernel
theorem dL_law_335 : decode cL_law 335 = .ok (.if_icmp .eq 5, 3) := by decide +kernel
theorem dL_law_338 : decode cL_law 338 = .ok (.iconst 0, 1) := by decide +kernel
theorem dL_law_339 : decode cL_law 339 = .ok (.ireturn, 1) := by decide +kernel
theorem dL_law_340 : decode cL_law 340 = .ok (.iload 5, 2) := by decide +kernel
theorem dL_law_342 : decode cL_law 342 = .ok (.ifCond .ne 15, 3) := by decide +kernel
theorem dL_law_345 : decode cL_law 345 = .ok (.aload_n 3, 1) := by decide +kernel
theorem dL_law_346 : decode cL_law 346 = .ok (.iconst 0, 1) := by decide +kernel
theorem dL_law_347 : decode cL_law 347 = .ok (.laload, 1) := by decide +kernel
theorem dL_law_348 : decode cL_law 348 = .ok (.iload 6, 2) := by decide +kernel
theorem dL_law_350 : decode cL_law 350 = .ok (.i2l, 1) := by decide +kernel
theorem dL_law_351 : decode cL_law 351 = .ok (.lcmp, 1) := by decide +kernel
theorem dL_law_352 : decode cL_law 352 = .ok (.ifCond .eq 5, 3) := by decide +kernel
theorem dL_law_355 : decode cL_law 355 = .ok (.iconst 0, 1) := by decide +kernel
theorem dL_law_356 : decode cL_law 356 = .ok (.ireturn, 1) := by decide +kernel
theorem dL_law_357 : decode cL_law 357 = .ok (.goto 1261, 3) := by decide +kernel
theorem dL_law_360 : decode cL_law 360 = .ok (.aload_n 1, 1) := by decide +kernel
theorem dL_law_361 : decode cL_law 361 = .ok (.aload_n 0, 1) := by decide +kernel
theorem dL_law_362 : decode cL_law 362 = .ok (.iload 4, 2) := by decide +kernel
theorem dL_law_364 : decode cL_law 364 = .ok (.iconst 1, 1) := by decide +kernel
theorem dL_law_365 : decode cL_law 365 = .ok (.iadd, 1) := by decide +kernel
theorem dL_law_366 : decode cL_law 366 = .ok (.iaload, 1) := by decide +kernel
theorem dL_law_367 : decode cL_law 367 = .ok (.aload_n 0, 1) := by decide +kernel
theorem dL_law_368 : decode cL_law 368 = .ok (.iload 4, 2) := by decide +kernel
theorem dL_law_370 : decode cL_law 370 = .ok (.iconst 2, 1) := by decide +kernel
theorem dL_law_371 : decode cL_law 371 = .ok (.iadd, 1) := by decide +kernel
theorem dL_law_372 : decode cL_law 372 = .ok (.iaload, 1) := by decide +kernel
theorem dL_law_373 : decode cL_law 373 = .ok (.aload_n 3, 1) := by decide +kernel
theorem dL_law_374 : decode cL_law 374 = .ok (.invokestatic 101, 3) := by decide +kernel
theorem dL_law_377 : decode cL_law 377 = .ok (.istore 5, 2) := by decide +kernel
theorem dL_law_379 : decode cL_law 379 = .ok (.aload_n 2, 1) := by decide +kernel
theorem dL_law_380 : decode cL_law 380 = .ok (.aload_n 0, 1) := by decide +kernel
theorem dL_law_381 : decode cL_law 381 = .ok (.iload 4, 2) := by decide +kernel
theorem dL_law_383 : decode cL_law 383 = .ok (.iconst 1, 1) := by decide +kernel
theorem dL_law_384 : decode cL_law 384 = .ok (.iadd, 1) := by decide +kernel
theorem dL_law_385 : decode cL_law 385 = .ok (.iaload, 1) := by decide +kernel
theorem dL_law_386 : decode cL_law 386 = .ok (.aload_n 0, 1) := by decide +kernel
theorem dL_law_387 : decode cL_law 387 = .ok (.iload 4, 2) := by decide +kernel
theorem dL_law_389 : decode cL_law 389 = .ok (.iconst 2, 1) := by decide +kernel
theorem dL_law_390 : decode cL_law 390 = .ok (.iadd, 1) := by decide +kernel
theorem dL_law_391 : decode cL_law 391 = .ok (.iaload, 1) := by decide +kernel
theorem dL_law_392 : decode cL_law 392 = .ok (.invokevirtual 103, 3) := by decide +kernel
theorem dL_law_395 : decode cL_law 395 = .ok (.istore 6, 2) := by decide +kernel
theorem dL_law_397 : decode cL_law 397 = .ok (.aload_n 2, 1) := by decide +kernel
theorem dL_law_398 : decode cL_law 398 = .ok (.invokevirtual 92, 3) := by decide +kernel
theorem dL_law_401 : decode cL_law 401 = .ok (.iload 5, 2) := by decide +kernel
theorem dL_law_403 : decode cL_law 403 = .ok (.if_icmp .eq 5, 3) := by decide +kernel
theorem dL_law_406 : decode cL_law 406 = .ok (.iconst 0, 1) := by decide +kernel
theorem dL_law_407 : decode cL_law 407 = .ok (.ireturn, 1) := by decide +kernel
theorem dL_law_408 : decode cL_law 408 = .ok (.iload 5, 2) := by decide +kernel
theorem dL_law_410 : decode cL_law 410 = .ok (.ifCond .ne 15, 3) := by decide +kernel
theorem dL_law_413 : decode cL_law 413 = .ok (.aload_n 3, 1) := by decide +kernel
theorem dL_law_414 : decode cL_law 414 = .ok (.iconst 0, 1) := by decide +kernel
theorem dL_law_415 : decode cL_law 415 = .ok (.laload, 1) := by decide +kernel
theorem dL_law_416 : decode cL_law 416 = .ok (.iload 6, 2) := by decide +kernel
theorem dL_law_418 : decode cL_law 418 = .ok (.i2l, 1) := by decide +kernel
theorem dL_law_419 : decode cL_law 419 = .ok (.lcmp, 1) := by decide +kernel
theorem dL_law_420 : decode cL_law 420 = .ok (.ifCond .eq 5, 3) := by decide +kernel
theorem dL_law_423 : decode cL_law 423 = .ok (.iconst 0, 1) := by decide +kernel
theorem dL_law_424 : decode cL_law 424 = .ok (.ireturn, 1) := by decide +kernel
theorem dL_law_425 : decode cL_law 425 = .ok (.goto 1193, 3) := by decide +kernel
theorem dL_law_428 : decode cL_law 428 = .ok (.aload_n 1, 1) := by decide +kernel
theorem dL_law_429 : decode cL_law 429 = .ok (.aload_n 0, 1) := by decide +kernel
theorem dL_law_430 : decode cL_law 430 = .ok (.iload 4, 2) := by decide +kernel
theorem dL_law_432 : decode cL_law 432 = .ok (.iconst 1, 1) := by decide +kernel
theorem dL_law_433 : decode cL_law 433 = .ok (.iadd, 1) := by decide +kernel
theorem dL_law_434 : decode cL_law 434 = .ok (.iaload, 1) := by decide +kernel
theorem dL_law_435 : decode cL_law 435 = .ok (.aload_n 0, 1) := by decide +kernel
theorem dL_law_436 : decode cL_law 436 = .ok (.iload 4, 2) := by decide +kernel
theorem dL_law_438 : decode cL_law 438 = .ok (.iconst 2, 1) := by decide +kernel
theorem dL_law_439 : decode cL_law 439 = .ok (.iadd, 1) := by decide +kernel
theorem dL_law_440 : decode cL_law 440 = .ok (.iaload, 1) := by decide +kernel
theorem dL_law_441 : decode cL_law 441 = .ok (.aload_n 3, 1) := by decide +kernel
theorem dL_law_442 : decode cL_law 442 = .ok (.invokestatic 104, 3) := by decide +kernel
theorem dL_law_445 : decode cL_law 445 = .ok (.istore 5, 2) := by decide +kernel
theorem dL_law_447 : decode cL_law 447 = .ok (.aload_n 2, 1) := by decide +kernel
theorem dL_law_448 : decode cL_law 448 = .ok (.aload_n 0, 1) := by decide +kernel
theorem dL_law_449 : decode cL_law 449 = .ok (.iload 4, 2) := by decide +kernel
theorem dL_law_451 : decode cL_law 451 = .ok (.iconst 1, 1) := by decide +kernel
theorem dL_law_452 : decode cL_law 452 = .ok (.iadd, 1) := by decide +kernel
theorem dL_law_453 : decode cL_law 453 = .ok (.iaload, 1) := by decide +kernel
theorem dL_law_454 : decode cL_law 454 = .ok (.aload_n 0, 1) := by decide +kernel
theorem dL_law_455 : decode cL_law 455 = .ok (.iload 4, 2) := by decide +kernel
theorem dL_law_457 : decode cL_law 457 = .ok (.iconst 2, 1) := by decide +kernel
theorem dL_law_458 : decode cL_law 458 = .ok (.iadd, 1) := by decide +kernel
theorem dL_law_459 : decode cL_law 459 = .ok (.iaload, 1) := by decide +kernel
theorem dL_law_460 : decode cL_law 460 = .ok (.invokevirtual 106, 3) := by decide +kernel
theorem dL_law_463 : decode cL_law 463 = .ok (.istore 6, 2) := by decide +kernel
theorem dL_law_465 : decode cL_law 465 = .ok (.aload_n 2, 1) := by decide +kernel
theorem dL_law_466 : decode cL_law 466 = .ok (.invokevirtual 92, 3) := by decide +kernel
theorem dL_law_469 : decode cL_law 469 = .ok (.iload 5, 2) := by decide +kernel
theorem dL_law_471 : decode cL_law 471 = .ok (.if_icmp .eq 5, 3) := by decide +kernel
theorem dL_law_474 : decode cL_law 474 = .ok (.iconst 0, 1) := by decide +kernel
theorem dL_law_475 : decode cL_law 475 = .ok (.ireturn, 1) := by decide +kernel
theorem dL_law_476 : decode cL_law 476 = .ok (.iload 5, 2) := by decide +kernel
theorem dL_law_478 : decode cL_law 478 = .ok (.ifCond .ne 15, 3) := by decide +kernel
theorem dL_law_481 : decode cL_law 481 = .ok (.aload_n 3, 1) := by decide +kernel
theorem dL_law_482 : decode cL_law 482 = .ok (.iconst 0, 1) := by decide +kernel
theorem dL_law_483 : decode cL_law 483 = .ok (.laload, 1) := by decide +kernel
theorem dL_law_484 : decode cL_law 484 = .ok (.iload 6, 2) := by decide +kernel
theorem dL_law_486 : decode cL_law 486 = .ok (.i2l, 1) := by decide +kernel
theorem dL_law_487 : decode cL_law 487 = .ok (.lcmp, 1) := by decide +kernel
theorem dL_law_488 : decode cL_law 488 = .ok (.ifCond .eq 5, 3) := by decide +kernel
theorem dL_law_491 : decode cL_law 491 = .ok (.iconst 0, 1) := by decide +kernel
theorem dL_law_492 : decode cL_law 492 = .ok (.ireturn, 1) := by decide +kernel
theorem dL_law_493 : decode cL_law 493 = .ok (.goto 1125, 3) := by decide +kernel
theorem dL_law_496 : decode cL_law 496 = .ok (.aload_n 1, 1) := by decide +kernel
theorem dL_law_497 : decode cL_law 497 = .ok (.aload_n 0, 1) := by decide +kernel
theorem dL_law_498 : decode cL_law 498 = .ok (.iload 4, 2) := by decide +kernel
theorem dL_law_500 : decode cL_law 500 = .ok (.iconst 1, 1) := by decide +kernel
theorem dL_law_501 : decode cL_law 501 = .ok (.iadd, 1) := by decide +kernel
theorem dL_law_502 : decode cL_law 502 = .ok (.iaload, 1) := by decide +kernel
theorem dL_law_503 : decode cL_law 503 = .ok (.aload_n 0, 1) := by decide +kernel
theorem dL_law_504 : decode cL_law 504 = .ok (.iload 4, 2) := by decide +kernel
theorem dL_law_506 : decode cL_law 506 = .ok (.iconst 2, 1) := by decide +kernel
theorem dL_law_507 : decode cL_law 507 = .ok (.iadd, 1) := by decide +kernel
theorem dL_law_508 : decode cL_law 508 = .ok (.iaload, 1) := by decide +kernel
theorem dL_law_509 : decode cL_law 509 = .ok (.aload_n 0, 1) := by decide +kernel
theorem dL_law_510 : decode cL_law 510 = .ok (.iload 4, 2) := by decide +kernel
theorem dL_law_512 : decode cL_law 512 = .ok (.iconst 3, 1) := by decide +kernel
theorem dL_law_513 : decode cL_law 513 = .ok (.iadd, 1) := by decide +kernel
theorem dL_law_514 : decode cL_law 514 = .ok (.iaload, 1) := by decide +kernel
theorem dL_law_515 : decode cL_law 515 = .ok (.aload_n 3, 1) := by decide +kernel
theorem dL_law_516 : decode cL_law 516 = .ok (.invokestatic 107, 3) := by decide +kernel
theorem dL_law_519 : decode cL_law 519 = .ok (.istore 5, 2) := by decide +kernel
theorem dL_law_521 : decode cL_law 521 = .ok (.aload_n 2, 1) := by decide +kernel
theorem dL_law_522 : decode cL_law 522 = .ok (.aload_n 0, 1) := by decide +kernel
theorem dL_law_523 : decode cL_law 523 = .ok (.iload 4, 2) := by decide +kernel
theorem dL_law_525 : decode cL_law 525 = .ok (.iconst 1, 1) := by decide +kernel
theorem dL_law_526 : decode cL_law 526 = .ok (.iadd, 1) := by decide +kernel
theorem dL_law_527 : decode cL_law 527 = .ok (.iaload, 1) := by decide +kernel
theorem dL_law_528 : decode cL_law 528 = .ok (.aload_n 0, 1) := by decide +kernel
theorem dL_law_529 : decode cL_law 529 = .ok (.iload 4, 2) := by decide +kernel
theorem dL_law_531 : decode cL_law 531 = .ok (.iconst 2, 1) := by decide +kernel
theorem dL_law_532 : decode cL_law 532 = .ok (.iadd, 1) := by decide +kernel
theorem dL_law_533 : decode cL_law 533 = .ok (.iaload, 1) := by decide +kernel
theorem dL_law_534 : decode cL_law 534 = .ok (.aload_n 0, 1) := by decide +kernel
theorem dL_law_535 : decode cL_law 535 = .ok (.iload 4, 2) := by decide +kernel
theorem dL_law_537 : decode cL_law 537 = .ok (.iconst 3, 1) := by decide +kernel
theorem dL_law_538 : decode cL_law 538 = .ok (.iadd, 1) := by decide +kernel
theorem dL_law_539 : decode cL_law 539 = .ok (.iaload, 1) := by decide +kernel
theorem dL_law_540 : decode cL_law 540 = .ok (.invokevirtual 110, 3) := by decide +kernel
theorem dL_law_543 : decode cL_law 543 = .ok (.istore 6, 2) := by decide +kernel
theorem dL_law_545 : decode cL_law 545 = .ok (.aload_n 2, 1) := by decide +kernel
theorem dL_law_546 : decode cL_law 546 = .ok (.invokevirtual 92, 3) := by decide +kernel
theorem dL_law_549 : decode cL_law 549 = .ok (.iload 5, 2) := by decide +kernel
theorem dL_law_551 : decode cL_law 551 = .ok (.if_icmp .eq 5, 3) := by decide +kernel
theorem dL_law_554 : decode cL_law 554 = .ok (.iconst 0, 1) := by decide +kernel
theorem dL_law_555 : decode cL_law 555 = .ok (.ireturn, 1) := by decide +kernel
theorem dL_law_556 : decode cL_law 556 = .ok (.iload 5, 2) := by decide +kernel
theorem dL_law_558 : decode cL_law 558 = .ok (.ifCond .ne 15, 3) := by decide +kernel
theorem dL_law_561 : decode cL_law 561 = .ok (.aload_n 3, 1) := by decide +kernel
theorem dL_law_562 : decode cL_law 562 = .ok (.iconst 0, 1) := by decide +kernel
theorem dL_law_563 : decode cL_law 563 = .ok (.laload, 1) := by decide +kernel
theorem dL_law_564 : decode cL_law 564 = .ok (.iload 6, 2) := by decide +kernel
theorem dL_law_566 : decode cL_law 566 = .ok (.i2l, 1) := by decide +kernel
theorem dL_law_567 : decode cL_law 567 = .ok (.lcmp, 1) := by decide +kernel
theorem dL_law_568 : decode cL_law 568 = .ok (.ifCond .eq 5, 3) := by decide +kernel
theorem dL_law_571 : decode cL_law 571 = .ok (.iconst 0, 1) := by decide +kernel
theorem dL_law_572 : decode cL_law 572 = .ok (.ireturn, 1) := by decide +kernel
theorem dL_law_573 : decode cL_law 573 = .ok (.goto 1045, 3) := by decide +kernel
theorem dL_law_576 : decode cL_law 576 = .ok (.aload_n 1, 1) := by decide +kernel
theorem dL_law_577 : decode cL_law 577 = .ok (.aload_n 0, 1) := by decide +kernel
theorem dL_law_578 : decode cL_law 578 = .ok (.iload 4, 2) := by decide +kernel
theorem dL_law_580 : decode cL_law 580 = .ok (.iconst 1, 1) := by decide +kernel
theorem dL_law_581 : decode cL_law 581 = .ok (.iadd, 1) := by decide +kernel
theorem dL_law_582 : decode cL_law 582 = .ok (.iaload, 1) := by decide +kernel
theorem dL_law_583 : decode cL_law 583 = .ok (.aload_n 0, 1) := by decide +kernel
theorem dL_law_584 : decode cL_law 584 = .ok (.iload 4, 2) := by decide +kernel
theorem dL_law_586 : decode cL_law 586 = .ok (.iconst 2, 1) := by decide +kernel
theorem dL_law_587 : decode cL_law 587 = .ok (.iadd, 1) := by decide +kernel
theorem dL_law_588 : decode cL_law 588 = .ok (.iaload, 1) := by decide +kernel
theorem dL_law_589 : decode cL_law 589 = .ok (.aload_n 0, 1) := by decide +kernel
theorem dL_law_590 : decode cL_law 590 = .ok (.iload 4, 2) := by decide +kernel
theorem dL_law_592 : decode cL_law 592 = .ok (.iconst 3, 1) := by decide +kernel
theorem dL_law_593 : decode cL_law 593 = .ok (.iadd, 1) := by decide +kernel
theorem dL_law_594 : decode cL_law 594 = .ok (.iaload, 1) := by decide +kernel
theorem dL_law_595 : decode cL_law 595 = .ok (.aload_n 3, 1) := by decide +kernel
theorem dL_law_596 : decode cL_law 596 = .ok (.invokestatic 111, 3) := by decide +kernel
theorem dL_law_599 : decode cL_law 599 = .ok (.istore 5, 2) := by decide +kernel
theorem dL_law_601 : decode cL_law 601 = .ok (.aload_n 2, 1) := by decide +kernel
theorem dL_law_602 : decode cL_law 602 = .ok (.aload_n 0, 1) := by decide +kernel
theorem dL_law_603 : decode cL_law 603 = .ok (.iload 4, 2) := by decide +kernel
theorem dL_law_605 : decode cL_law 605 = .ok (.iconst 1, 1) := by decide +kernel
theorem dL_law_606 : decode cL_law 606 = .ok (.iadd, 1) := by decide +kernel
theorem dL_law_607 : decode cL_law 607 = .ok (.iaload, 1) := by decide +kernel
theorem dL_law_608 : decode cL_law 608 = .ok (.aload_n 0, 1) := by decide +kernel
theorem dL_law_609 : decode cL_law 609 = .ok (.iload 4, 2) := by decide +kernel
theorem dL_law_611 : decode cL_law 611 = .ok (.iconst 2, 1) := by decide +kernel
theorem dL_law_612 : decode cL_law 612 = .ok (.iadd, 1) := by decide +kernel
theorem dL_law_613 : decode cL_law 613 = .ok (.iaload, 1) := by decide +kernel
theorem dL_law_614 : decode cL_law 614 = .ok (.aload_n 0, 1) := by decide +kernel
theorem dL_law_615 : decode cL_law 615 = .ok (.iload 4, 2) := by decide +kernel
theorem dL_law_617 : decode cL_law 617 = .ok (.iconst 3, 1) := by decide +kernel
theorem dL_law_618 : decode cL_law 618 = .ok (.iadd, 1) := by decide +kernel
theorem dL_law_619 : decode cL_law 619 = .ok (.iaload, 1) := by decide +kernel
theorem dL_law_620 : decode cL_law 620 = .ok (.invokevirtual 113, 3) := by decide +kernel
theorem dL_law_623 : decode cL_law 623 = .ok (.istore 6, 2) := by decide +kernel
theorem dL_law_625 : decode cL_law 625 = .ok (.aload_n 2, 1) := by decide +kernel
theorem dL_law_626 : decode cL_law 626 = .ok (.invokevirtual 92, 3) := by decide +kernel
theorem dL_law_629 : decode cL_law 629 = .ok (.iload 5, 2) := by decide +kernel
theorem dL_law_631 : decode cL_law 631 = .ok (.if_icmp .eq 5, 3) := by decide +kernel
theorem dL_law_634 : decode cL_law 634 = .ok (.iconst 0, 1) := by decide +kernel
theorem dL_law_635 : decode cL_law 635 = .ok (.ireturn, 1) := by decide +kernel
theorem dL_law_636 : decode cL_law 636 = .ok (.iload 5, 2) := by decide +kernel
theorem dL_law_638 : decode cL_law 638 = .ok (.ifCond .ne 15, 3) := by decide +kernel
theorem dL_law_641 : decode cL_law 641 = .ok (.aload_n 3, 1) := by decide +kernel
theorem dL_law_642 : decode cL_law 642 = .ok (.iconst 0, 1) := by decide +kernel
theorem dL_law_643 : decode cL_law 643 = .ok (.laload, 1) := by decide +kernel
theorem dL_law_644 : decode cL_law 644 = .ok (.iload 6, 2) := by decide +kernel
theorem dL_law_646 : decode cL_law 646 = .ok (.i2l, 1) := by decide +kernel
theorem dL_law_647 : decode cL_law 647 = .ok (.lcmp, 1) := by decide +kernel
theorem dL_law_648 : decode cL_law 648 = .ok (.ifCond .eq 5, 3) := by decide +kernel
theorem dL_law_651 : decode cL_law 651 = .ok (.iconst 0, 1) := by decide +kernel
theorem dL_law_652 : decode cL_law 652 = .ok (.ireturn, 1) := by decide +kernel
theorem dL_law_653 : decode cL_law 653 = .ok (.goto 965, 3) := by decide +kernel
theorem dL_law_656 : decode cL_law 656 = .ok (.aload_n 1, 1) := by decide +kernel
theorem dL_law_657 : decode cL_law 657 = .ok (.aload_n 0, 1) := by decide +kernel
theorem dL_law_658 : decode cL_law 658 = .ok (.iload 4, 2) := by decide +kernel
theorem dL_law_660 : decode cL_law 660 = .ok (.iconst 1, 1) := by decide +kernel
theorem dL_law_661 : decode cL_law 661 = .ok (.iadd, 1) := by decide +kernel
theorem dL_law_662 : decode cL_law 662 = .ok (.iaload, 1) := by decide +kernel
theorem dL_law_663 : decode cL_law 663 = .ok (.aload_n 3, 1) := by decide +kernel
theorem dL_law_664 : decode cL_law 664 = .ok (.invokestatic 114, 3) := by decide +kernel
theorem dL_law_667 : decode cL_law 667 = .ok (.istore 5, 2) := by decide +kernel
theorem dL_law_669 : decode cL_law 669 = .ok (.aload_n 2, 1) := by decide +kernel
theorem dL_law_670 : decode cL_law 670 = .ok (.aload_n 0, 1) := by decide +kernel
theorem dL_law_671 : decode cL_law 671 = .ok (.iload 4, 2) := by decide +kernel
theorem dL_law_673 : decode cL_law 673 = .ok (.iconst 1, 1) := by decide +kernel
theorem dL_law_674 : decode cL_law 674 = .ok (.iadd, 1) := by decide +kernel
theorem dL_law_675 : decode cL_law 675 = .ok (.iaload, 1) := by decide +kernel
theorem dL_law_676 : decode cL_law 676 = .ok (.invokevirtual 117, 3) := by decide +kernel
theorem dL_law_679 : decode cL_law 679 = .ok (.istore 6, 2) := by decide +kernel
theorem dL_law_681 : decode cL_law 681 = .ok (.aload_n 2, 1) := by decide +kernel
theorem dL_law_682 : decode cL_law 682 = .ok (.invokevirtual 92, 3) := by decide +kernel
theorem dL_law_685 : decode cL_law 685 = .ok (.iload 5, 2) := by decide +kernel
theorem dL_law_687 : decode cL_law 687 = .ok (.if_icmp .eq 5, 3) := by decide +kernel
theorem dL_law_690 : decode cL_law 690 = .ok (.iconst 0, 1) := by decide +kernel
theorem dL_law_691 : decode cL_law 691 = .ok (.ireturn, 1) := by decide +kernel
theorem dL_law_692 : decode cL_law 692 = .ok (.iload 5, 2) := by decide +kernel
theorem dL_law_694 : decode cL_law 694 = .ok (.ifCond .ne 15, 3) := by decide +kernel
theorem dL_law_697 : decode cL_law 697 = .ok (.aload_n 3, 1) := by decide +kernel
theorem dL_law_698 : decode cL_law 698 = .ok (.iconst 0, 1) := by decide +kernel
theorem dL_law_699 : decode cL_law 699 = .ok (.laload, 1) := by decide +kernel
theorem dL_law_700 : decode cL_law 700 = .ok (.iload 6, 2) := by decide +kernel
theorem dL_law_702 : decode cL_law 702 = .ok (.i2l, 1) := by decide +kernel
theorem dL_law_703 : decode cL_law 703 = .ok (.lcmp, 1) := by decide +kernel
theorem dL_law_704 : decode cL_law 704 = .ok (.ifCond .eq 5, 3) := by decide +kernel
theorem dL_law_707 : decode cL_law 707 = .ok (.iconst 0, 1) := by decide +kernel
theorem dL_law_708 : decode cL_law 708 = .ok (.ireturn, 1) := by decide +kernel
theorem dL_law_709 : decode cL_law 709 = .ok (.goto 909, 3) := by decide +kernel
theorem dL_law_712 : decode cL_law 712 = .ok (.aload_n 1, 1) := by decide +kernel
theorem dL_law_713 : decode cL_law 713 = .ok (.aload_n 0, 1) := by decide +kernel
theorem dL_law_714 : decode cL_law 714 = .ok (.iload 4, 2) := by decide +kernel
theorem dL_law_716 : decode cL_law 716 = .ok (.iconst 1, 1) := by decide +kernel
theorem dL_law_717 : decode cL_law 717 = .ok (.iadd, 1) := by decide +kernel
theorem dL_law_718 : decode cL_law 718 = .ok (.iaload, 1) := by decide +kernel
theorem dL_law_719 : decode cL_law 719 = .ok (.aload_n 3, 1) := by decide +kernel
theorem dL_law_720 : decode cL_law 720 = .ok (.invokestatic 118, 3) := by decide +kernel
theorem dL_law_723 : decode cL_law 723 = .ok (.istore 5, 2) := by decide +kernel
theorem dL_law_725 : decode cL_law 725 = .ok (.aload_n 2, 1) := by decide +kernel
theorem dL_law_726 : decode cL_law 726 = .ok (.aload_n 0, 1) := by decide +kernel
theorem dL_law_727 : decode cL_law 727 = .ok (.iload 4, 2) := by decide +kernel
theorem dL_law_729 : decode cL_law 729 = .ok (.iconst 1, 1) := by decide +kernel
theorem dL_law_730 : decode cL_law 730 = .ok (.iadd, 1) := by decide +kernel
theorem dL_law_731 : decode cL_law 731 = .ok (.iaload, 1) := by decide +kernel
theorem dL_law_732 : decode cL_law 732 = .ok (.invokevirtual 120, 3) := by decide +kernel
theorem dL_law_735 : decode cL_law 735 = .ok (.istore 6, 2) := by decide +kernel
theorem dL_law_737 : decode cL_law 737 = .ok (.aload_n 2, 1) := by decide +kernel
theorem dL_law_738 : decode cL_law 738 = .ok (.invokevirtual 92, 3) := by decide +kernel
theorem dL_law_741 : decode cL_law 741 = .ok (.iload 5, 2) := by decide +kernel
theorem dL_law_743 : decode cL_law 743 = .ok (.if_icmp .eq 5, 3) := by decide +kernel
theorem dL_law_746 : decode cL_law 746 = .ok (.iconst 0, 1) := by decide +kernel
theorem dL_law_747 : decode cL_law 747 = .ok (.ireturn, 1) := by decide +kernel
theorem dL_law_748 : decode cL_law 748 = .ok (.iload 5, 2) := by decide +kernel
theorem dL_law_750 : decode cL_law 750 = .ok (.ifCond .ne 15, 3) := by decide +kernel
theorem dL_law_753 : decode cL_law 753 = .ok (.aload_n 3, 1) := by decide +kernel
theorem dL_law_754 : decode cL_law 754 = .ok (.iconst 0, 1) := by decide +kernel
theorem dL_law_755 : decode cL_law 755 = .ok (.laload, 1) := by decide +kernel
theorem dL_law_756 : decode cL_law 756 = .ok (.iload 6, 2) := by decide +kernel
theorem dL_law_758 : decode cL_law 758 = .ok (.i2l, 1) := by decide +kernel
theorem dL_law_759 : decode cL_law 759 = .ok (.lcmp, 1) := by decide +kernel
theorem dL_law_760 : decode cL_law 760 = .ok (.ifCond .eq 5, 3) := by decide +kernel
theorem dL_law_763 : decode cL_law 763 = .ok (.iconst 0, 1) := by decide +kernel
theorem dL_law_764 : decode cL_law 764 = .ok (.ireturn, 1) := by decide +kernel
theorem dL_law_765 : decode cL_law 765 = .ok (.goto 853, 3) := by decide +kernel
theorem dL_law_768 : decode cL_law 768 = .ok (.aload_n 1, 1) := by decide +kernel
theorem dL_law_769 : decode cL_law 769 = .ok (.invokevirtual 121, 3) := by decide +kernel
theorem dL_law_772 : decode cL_law 772 = .ok (.aload_n 2, 1) := by decide +kernel
theorem dL_law_773 : decode cL_law 773 = .ok (.invokevirtual 124, 3) := by decide +kernel
theorem dL_law_776 : decode cL_law 776 = .ok (.if_icmp .eq 842, 3) := by decide +kernel
theorem dL_law_779 : decode cL_law 779 = .ok (.iconst 0, 1) := by decide +kernel
theorem dL_law_780 : decode cL_law 780 = .ok (.ireturn, 1) := by decide +kernel
theorem dL_law_781 : decode cL_law 781 = .ok (.aload_n 1, 1) := by decide +kernel
theorem dL_law_782 : decode cL_law 782 = .ok (.invokevirtual 125, 3) := by decide +kernel
theorem dL_law_785 : decode cL_law 785 = .ok (.aload_n 2, 1) := by decide +kernel
theorem dL_law_786 : decode cL_law 786 = .ok (.invokevirtual 128, 3) := by decide +kernel
theorem dL_law_789 : decode cL_law 789 = .ok (.if_icmp .eq 829, 3) := by decide +kernel
theorem dL_law_792 : decode cL_law 792 = .ok (.iconst 0, 1) := by decide +kernel
theorem dL_law_793 : decode cL_law 793 = .ok (.ireturn, 1) := by decide +kernel
theorem dL_law_794 : decode cL_law 794 = .ok (.aload_n 1, 1) := by decide +kernel
theorem dL_law_795 : decode cL_law 795 = .ok (.aload_n 3, 1) := by decide +kernel
theorem dL_law_796 : decode cL_law 796 = .ok (.invokestatic 129, 3) := by decide +kernel
theorem dL_law_799 : decode cL_law 799 = .ok (.istore 5, 2) := by decide +kernel
theorem dL_law_801 : decode cL_law 801 = .ok (.aload_n 2, 1) := by decide +kernel
theorem dL_law_802 : decode cL_law 802 = .ok (.invokevirtual 132, 3) := by decide +kernel
theorem dL_law_805 : decode cL_law 805 = .ok (.istore 6, 2) := by decide +kernel
theorem dL_law_807 : decode cL_law 807 = .ok (.aload_n 2, 1) := by decide +kernel
theorem dL_law_808 : decode cL_law 808 = .ok (.invokevirtual 92, 3) := by decide +kernel
theorem dL_law_811 : decode cL_law 811 = .ok (.iload 5, 2) := by decide +kernel
theorem dL_law_813 : decode cL_law 813 = .ok (.if_icmp .eq 5, 3) := by decide +kernel
theorem dL_law_816 : decode cL_law 816 = .ok (.iconst 0, 1) := by decide +kernel
theorem dL_law_817 : decode cL_law 817 = .ok (.ireturn, 1) := by decide +kernel
theorem dL_law_818 : decode cL_law 818 = .ok (.iload 5, 2) := by decide +kernel
theorem dL_law_820 : decode cL_law 820 = .ok (.ifCond .ne 15, 3) := by decide +kernel
theorem dL_law_823 : decode cL_law 823 = .ok (.aload_n 3, 1) := by decide +kernel
theorem dL_law_824 : decode cL_law 824 = .ok (.iconst 0, 1) := by decide +kernel
theorem dL_law_825 : decode cL_law 825 = .ok (.laload, 1) := by decide +kernel
theorem dL_law_826 : decode cL_law 826 = .ok (.iload 6, 2) := by decide +kernel
theorem dL_law_828 : decode cL_law 828 = .ok (.i2l, 1) := by decide +kernel
theorem dL_law_829 : decode cL_law 829 = .ok (.lcmp, 1) := by decide +kernel
theorem dL_law_830 : decode cL_law 830 = .ok (.ifCond .eq 5, 3) := by decide +kernel
theorem dL_law_833 : decode cL_law 833 = .ok (.iconst 0, 1) := by decide +kernel
theorem dL_law_834 : decode cL_law 834 = .ok (.ireturn, 1) := by decide +kernel
theorem dL_law_835 : decode cL_law 835 = .ok (.goto 783, 3) := by decide +kernel
theorem dL_law_838 : decode cL_law 838 = .ok (.aload_n 1, 1) := by decide +kernel
theorem dL_law_839 : decode cL_law 839 = .ok (.aload_n 3, 1) := by decide +kernel
theorem dL_law_840 : decode cL_law 840 = .ok (.invokestatic 133, 3) := by decide +kernel
theorem dL_law_843 : decode cL_law 843 = .ok (.istore 5, 2) := by decide +kernel
theorem dL_law_845 : decode cL_law 845 = .ok (.aload_n 2, 1) := by decide +kernel
theorem dL_law_846 : decode cL_law 846 = .ok (.invokevirtual 135, 3) := by decide +kernel
theorem dL_law_849 : decode cL_law 849 = .ok (.istore 6, 2) := by decide +kernel
theorem dL_law_851 : decode cL_law 851 = .ok (.aload_n 2, 1) := by decide +kernel
theorem dL_law_852 : decode cL_law 852 = .ok (.invokevirtual 92, 3) := by decide +kernel
theorem dL_law_855 : decode cL_law 855 = .ok (.iload 5, 2) := by decide +kernel
theorem dL_law_857 : decode cL_law 857 = .ok (.if_icmp .eq 5, 3) := by decide +kernel
theorem dL_law_860 : decode cL_law 860 = .ok (.iconst 0, 1) := by decide +kernel
theorem dL_law_861 : decode cL_law 861 = .ok (.ireturn, 1) := by decide +kernel
theorem dL_law_862 : decode cL_law 862 = .ok (.iload 5, 2) := by decide +kernel
theorem dL_law_864 : decode cL_law 864 = .ok (.ifCond .ne 15, 3) := by decide +kernel
theorem dL_law_867 : decode cL_law 867 = .ok (.aload_n 3, 1) := by decide +kernel
theorem dL_law_868 : decode cL_law 868 = .ok (.iconst 0, 1) := by decide +kernel
theorem dL_law_869 : decode cL_law 869 = .ok (.laload, 1) := by decide +kernel
theorem dL_law_870 : decode cL_law 870 = .ok (.iload 6, 2) := by decide +kernel
theorem dL_law_872 : decode cL_law 872 = .ok (.i2l, 1) := by decide +kernel
theorem dL_law_873 : decode cL_law 873 = .ok (.lcmp, 1) := by decide +kernel
theorem dL_law_874 : decode cL_law 874 = .ok (.ifCond .eq 5, 3) := by decide +kernel
theorem dL_law_877 : decode cL_law 877 = .ok (.iconst 0, 1) := by decide +kernel
theorem dL_law_878 : decode cL_law 878 = .ok (.ireturn, 1) := by decide +kernel
theorem dL_law_879 : decode cL_law 879 = .ok (.goto 739, 3) := by decide +kernel
theorem dL_law_882 : decode cL_law 882 = .ok (.aload_n 1, 1) := by decide +kernel
theorem dL_law_883 : decode cL_law 883 = .ok (.aload_n 0, 1) := by decide +kernel
theorem dL_law_884 : decode cL_law 884 = .ok (.iload 4, 2) := by decide +kernel
theorem dL_law_886 : decode cL_law 886 = .ok (.iconst 1, 1) := by decide +kernel
theorem dL_law_887 : decode cL_law 887 = .ok (.iadd, 1) := by decide +kernel
theorem dL_law_888 : decode cL_law 888 = .ok (.iaload, 1) := by decide +kernel
theorem dL_law_889 : decode cL_law 889 = .ok (.aload_n 0, 1) := by decide +kernel
theorem dL_law_890 : decode cL_law 890 = .ok (.iload 4, 2) := by decide +kernel
theorem dL_law_892 : decode cL_law 892 = .ok (.iconst 2, 1) := by decide +kernel
theorem dL_law_893 : decode cL_law 893 = .ok (.iadd, 1) := by decide +kernel
theorem dL_law_894 : decode cL_law 894 = .ok (.iaload, 1) := by decide +kernel
theorem dL_law_895 : decode cL_law 895 = .ok (.aload_n 3, 1) := by decide +kernel
theorem dL_law_896 : decode cL_law 896 = .ok (.invokestatic 136, 3) := by decide +kernel
theorem dL_law_899 : decode cL_law 899 = .ok (.istore 5, 2) := by decide +kernel
theorem dL_law_901 : decode cL_law 901 = .ok (.aload_n 2, 1) := by decide +kernel
theorem dL_law_902 : decode cL_law 902 = .ok (.aload_n 0, 1) := by decide +kernel
theorem dL_law_903 : decode cL_law 903 = .ok (.iload 4, 2) := by decide +kernel
theorem dL_law_905 : decode cL_law 905 = .ok (.iconst 1, 1) := by decide +kernel
theorem dL_law_906 : decode cL_law 906 = .ok (.iadd, 1) := by decide +kernel
theorem dL_law_907 : decode cL_law 907 = .ok (.iaload, 1) := by decide +kernel
theorem dL_law_908 : decode cL_law 908 = .ok (.aload_n 0, 1) := by decide +kernel
theorem dL_law_909 : decode cL_law 909 = .ok (.iload 4, 2) := by decide +kernel
theorem dL_law_911 : decode cL_law 911 = .ok (.iconst 2, 1) := by decide +kernel
theorem dL_law_912 : decode cL_law 912 = .ok (.iadd, 1) := by decide +kernel
theorem dL_law_913 : decode cL_law 913 = .ok (.iaload, 1) := by decide +kernel
theorem dL_law_914 : decode cL_law 914 = .ok (.invokevirtual 138, 3) := by decide +kernel
theorem dL_law_917 : decode cL_law 917 = .ok (.istore 6, 2) := by decide +kernel
theorem dL_law_919 : decode cL_law 919 = .ok (.aload_n 2, 1) := by decide +kernel
theorem dL_law_920 : decode cL_law 920 = .ok (.invokevirtual 92, 3) := by decide +kernel
theorem dL_law_923 : decode cL_law 923 = .ok (.iload 5, 2) := by decide +kernel
theorem dL_law_925 : decode cL_law 925 = .ok (.if_icmp .eq 5, 3) := by decide +kernel
theorem dL_law_928 : decode cL_law 928 = .ok (.iconst 0, 1) := by decide +kernel
theorem dL_law_929 : decode cL_law 929 = .ok (.ireturn, 1) := by decide +kernel
theorem dL_law_930 : decode cL_law 930 = .ok (.iload 5, 2) := by decide +kernel
theorem dL_law_932 : decode cL_law 932 = .ok (.ifCond .ne 15, 3) := by decide +kernel
theorem dL_law_935 : decode cL_law 935 = .ok (.aload_n 3, 1) := by decide +kernel
theorem dL_law_936 : decode cL_law 936 = .ok (.iconst 0, 1) := by decide +kernel
theorem dL_law_937 : decode cL_law 937 = .ok (.laload, 1) := by decide +kernel
theorem dL_law_938 : decode cL_law 938 = .ok (.iload 6, 2) := by decide +kernel
theorem dL_law_940 : decode cL_law 940 = .ok (.i2l, 1) := by decide +kernel
theorem dL_law_941 : decode cL_law 941 = .ok (.lcmp, 1) := by decide +kernel
theorem dL_law_942 : decode cL_law 942 = .ok (.ifCond .eq 5, 3) := by decide +kernel
theorem dL_law_945 : decode cL_law 945 = .ok (.iconst 0, 1) := by decide +kernel
theorem dL_law_946 : decode cL_law 946 = .ok (.ireturn, 1) := by decide +kernel
theorem dL_law_947 : decode cL_law 947 = .ok (.goto 671, 3) := by decide +kernel
theorem dL_law_950 : decode cL_law 950 = .ok (.aload_n 1, 1) := by decide +kernel
theorem dL_law_951 : decode cL_law 951 = .ok (.aload_n 0, 1) := by decide +kernel
theorem dL_law_952 : decode cL_law 952 = .ok (.iload 4, 2) := by decide +kernel
theorem dL_law_954 : decode cL_law 954 = .ok (.iconst 1, 1) := by decide +kernel
theorem dL_law_955 : decode cL_law 955 = .ok (.iadd, 1) := by decide +kernel
theorem dL_law_956 : decode cL_law 956 = .ok (.iaload, 1) := by decide +kernel
theorem dL_law_957 : decode cL_law 957 = .ok (.aload_n 0, 1) := by decide +kernel
theorem dL_law_958 : decode cL_law 958 = .ok (.iload 4, 2) := by decide +kernel
theorem dL_law_960 : decode cL_law 960 = .ok (.iconst 2, 1) := by decide +kernel
theorem dL_law_961 : decode cL_law 961 = .ok (.iadd, 1) := by decide +kernel
theorem dL_law_962 : decode cL_law 962 = .ok (.iaload, 1) := by decide +kernel
theorem dL_law_963 : decode cL_law 963 = .ok (.aload_n 0, 1) := by decide +kernel
theorem dL_law_964 : decode cL_law 964 = .ok (.iload 4, 2) := by decide +kernel
theorem dL_law_966 : decode cL_law 966 = .ok (.iconst 3, 1) := by decide +kernel
theorem dL_law_967 : decode cL_law 967 = .ok (.iadd, 1) := by decide +kernel
theorem dL_law_968 : decode cL_law 968 = .ok (.iaload, 1) := by decide +kernel
theorem dL_law_969 : decode cL_law 969 = .ok (.aload_n 3, 1) := by decide +kernel
theorem dL_law_970 : decode cL_law 970 = .ok (.invokestatic 139, 3) := by decide +kernel
theorem dL_law_973 : decode cL_law 973 = .ok (.istore 5, 2) := by decide +kernel
theorem dL_law_975 : decode cL_law 975 = .ok (.aload_n 2, 1) := by decide +kernel
theorem dL_law_976 : decode cL_law 976 = .ok (.aload_n 0, 1) := by decide +kernel
theorem dL_law_977 : decode cL_law 977 = .ok (.iload 4, 2) := by decide +kernel
theorem dL_law_979 : decode cL_law 979 = .ok (.iconst 1, 1) := by decide +kernel
theorem dL_law_980 : decode cL_law 980 = .ok (.iadd, 1) := by decide +kernel
theorem dL_law_981 : decode cL_law 981 = .ok (.iaload, 1) := by decide +kernel
theorem dL_law_982 : decode cL_law 982 = .ok (.aload_n 0, 1) := by decide +kernel
theorem dL_law_983 : decode cL_law 983 = .ok (.iload 4, 2) := by decide +kernel
theorem dL_law_985 : decode cL_law 985 = .ok (.iconst 2, 1) := by decide +kernel
theorem dL_law_986 : decode cL_law 986 = .ok (.iadd, 1) := by decide +kernel
theorem dL_law_987 : decode cL_law 987 = .ok (.iaload, 1) := by decide +kernel
theorem dL_law_988 : decode cL_law 988 = .ok (.aload_n 0, 1) := by decide +kernel
theorem dL_law_989 : decode cL_law 989 = .ok (.iload 4, 2) := by decide +kernel
theorem dL_law_991 : decode cL_law 991 = .ok (.iconst 3, 1) := by decide +kernel
theorem dL_law_992 : decode cL_law 992 = .ok (.iadd, 1) := by decide +kernel
theorem dL_law_993 : decode cL_law 993 = .ok (.iaload, 1) := by decide +kernel
theorem dL_law_994 : decode cL_law 994 = .ok (.invokevirtual 141, 3) := by decide +kernel
theorem dL_law_997 : decode cL_law 997 = .ok (.istore 6, 2) := by decide +kernel
theorem dL_law_999 : decode cL_law 999 = .ok (.aload_n 2, 1) := by decide +kernel
theorem dL_law_1000 : decode cL_law 1000 = .ok (.invokevirtual 92, 3) := by decide +kernel
theorem dL_law_1003 : decode cL_law 1003 = .ok (.iload 5, 2) := by decide +kernel
theorem dL_law_1005 : decode cL_law 1005 = .ok (.if_icmp .eq 5, 3) := by decide +kernel
theorem dL_law_1008 : decode cL_law 1008 = .ok (.iconst 0, 1) := by decide +kernel
theorem dL_law_1009 : decode cL_law 1009 = .ok (.ireturn, 1) := by decide +kernel
theorem dL_law_1010 : decode cL_law 1010 = .ok (.iload 5, 2) := by decide +kernel
theorem dL_law_1012 : decode cL_law 1012 = .ok (.ifCond .ne 15, 3) := by decide +kernel
theorem dL_law_1015 : decode cL_law 1015 = .ok (.aload_n 3, 1) := by decide +kernel
theorem dL_law_1016 : decode cL_law 1016 = .ok (.iconst 0, 1) := by decide +kernel
theorem dL_law_1017 : decode cL_law 1017 = .ok (.laload, 1) := by decide +kernel
theorem dL_law_1018 : decode cL_law 1018 = .ok (.iload 6, 2) := by decide +kernel
theorem dL_law_1020 : decode cL_law 1020 = .ok (.i2l, 1) := by decide +kernel
theorem dL_law_1021 : decode cL_law 1021 = .ok (.lcmp, 1) := by decide +kernel
theorem dL_law_1022 : decode cL_law 1022 = .ok (.ifCond .eq 5, 3) := by decide +kernel
theorem dL_law_1025 : decode cL_law 1025 = .ok (.iconst 0, 1) := by decide +kernel
theorem dL_law_1026 : decode cL_law 1026 = .ok (.ireturn, 1) := by decide +kernel
theorem dL_law_1027 : decode cL_law 1027 = .ok (.goto 591, 3) := by decide +kernel
theorem dL_law_1030 : decode cL_law 1030 = .ok (.aload_n 1, 1) := by decide +kernel
theorem dL_law_1031 : decode cL_law 1031 = .ok (.aload_n 0, 1) := by decide +kernel
theorem dL_law_1032 : decode cL_law 1032 = .ok (.iload 4, 2) := by decide +kernel
theorem dL_law_1034 : decode cL_law 1034 = .ok (.iconst 1, 1) := by decide +kernel
theorem dL_law_1035 : decode cL_law 1035 = .ok (.iadd, 1) := by decide +kernel
theorem dL_law_1036 : decode cL_law 1036 = .ok (.iaload, 1) := by decide +kernel
theorem dL_law_1037 : decode cL_law 1037 = .ok (.aload_n 0, 1) := by decide +kernel
theorem dL_law_1038 : decode cL_law 1038 = .ok (.iload 4, 2) := by decide +kernel
theorem dL_law_1040 : decode cL_law 1040 = .ok (.iconst 2, 1) := by decide +kernel
theorem dL_law_1041 : decode cL_law 1041 = .ok (.iadd, 1) := by decide +kernel
theorem dL_law_1042 : decode cL_law 1042 = .ok (.iaload, 1) := by decide +kernel
theorem dL_law_1043 : decode cL_law 1043 = .ok (.aload_n 3, 1) := by decide +kernel
theorem dL_law_1044 : decode cL_law 1044 = .ok (.invokestatic 142, 3) := by decide +kernel
theorem dL_law_1047 : decode cL_law 1047 = .ok (.istore 5, 2) := by decide +kernel
theorem dL_law_1049 : decode cL_law 1049 = .ok (.aload_n 2, 1) := by decide +kernel
theorem dL_law_1050 : decode cL_law 1050 = .ok (.aload_n 0, 1) := by decide +kernel
theorem dL_law_1051 : decode cL_law 1051 = .ok (.iload 4, 2) := by decide +kernel
theorem dL_law_1053 : decode cL_law 1053 = .ok (.iconst 1, 1) := by decide +kernel
theorem dL_law_1054 : decode cL_law 1054 = .ok (.iadd, 1) := by decide +kernel
theorem dL_law_1055 : decode cL_law 1055 = .ok (.iaload, 1) := by decide +kernel
theorem dL_law_1056 : decode cL_law 1056 = .ok (.aload_n 0, 1) := by decide +kernel
theorem dL_law_1057 : decode cL_law 1057 = .ok (.iload 4, 2) := by decide +kernel
theorem dL_law_1059 : decode cL_law 1059 = .ok (.iconst 2, 1) := by decide +kernel
theorem dL_law_1060 : decode cL_law 1060 = .ok (.iadd, 1) := by decide +kernel
theorem dL_law_1061 : decode cL_law 1061 = .ok (.iaload, 1) := by decide +kernel
theorem dL_law_1062 : decode cL_law 1062 = .ok (.invokevirtual 144, 3) := by decide +kernel
theorem dL_law_1065 : decode cL_law 1065 = .ok (.istore 6, 2) := by decide +kernel
theorem dL_law_1067 : decode cL_law 1067 = .ok (.aload_n 2, 1) := by decide +kernel
theorem dL_law_1068 : decode cL_law 1068 = .ok (.invokevirtual 92, 3) := by decide +kernel
theorem dL_law_1071 : decode cL_law 1071 = .ok (.iload 5, 2) := by decide +kernel
theorem dL_law_1073 : decode cL_law 1073 = .ok (.if_icmp .eq 5, 3) := by decide +kernel
theorem dL_law_1076 : decode cL_law 1076 = .ok (.iconst 0, 1) := by decide +kernel
theorem dL_law_1077 : decode cL_law 1077 = .ok (.ireturn, 1) := by decide +kernel
theorem dL_law_1078 : decode cL_law 1078 = .ok (.iload 5, 2) := by decide +kernel
theorem dL_law_1080 : decode cL_law 1080 = .ok (.ifCond .ne 15, 3) := by decide +kernel
theorem dL_law_1083 : decode cL_law 1083 = .ok (.aload_n 3, 1) := by decide +kernel
theorem dL_law_1084 : decode cL_law 1084 = .ok (.iconst 0, 1) := by decide +kernel
theorem dL_law_1085 : decode cL_law 1085 = .ok (.laload, 1) := by decide +kernel
theorem dL_law_1086 : decode cL_law 1086 = .ok (.iload 6, 2) := by decide +kernel
theorem dL_law_1088 : decode cL_law 1088 = .ok (.i2l, 1) := by decide +kernel
theorem dL_law_1089 : decode cL_law 1089 = .ok (.lcmp, 1) := by decide +kernel
theorem dL_law_1090 : decode cL_law 1090 = .ok (.ifCond .eq 5, 3) := by decide +kernel
theorem dL_law_1093 : decode cL_law 1093 = .ok (.iconst 0, 1) := by decide +kernel
theorem dL_law_1094 : decode cL_law 1094 = .ok (.ireturn, 1) := by decide +kernel
theorem dL_law_1095 : decode cL_law 1095 = .ok (.goto 523, 3) := by decide +kernel
theorem dL_law_1098 : decode cL_law 1098 = .ok (.aload_n 1, 1) := by decide +kernel
theorem dL_law_1099 : decode cL_law 1099 = .ok (.aload_n 0, 1) := by decide +kernel
theorem dL_law_1100 : decode cL_law 1100 = .ok (.iload 4, 2) := by decide +kernel
theorem dL_law_1102 : decode cL_law 1102 = .ok (.iconst 1, 1) := by decide +kernel
theorem dL_law_1103 : decode cL_law 1103 = .ok (.iadd, 1) := by decide +kernel
theorem dL_law_1104 : decode cL_law 1104 = .ok (.iaload, 1) := by decide +kernel
theorem dL_law_1105 : decode cL_law 1105 = .ok (.aload_n 0, 1) := by decide +kernel
theorem dL_law_1106 : decode cL_law 1106 = .ok (.iload 4, 2) := by decide +kernel
theorem dL_law_1108 : decode cL_law 1108 = .ok (.iconst 2, 1) := by decide +kernel
theorem dL_law_1109 : decode cL_law 1109 = .ok (.iadd, 1) := by decide +kernel
theorem dL_law_1110 : decode cL_law 1110 = .ok (.iaload, 1) := by decide +kernel
theorem dL_law_1111 : decode cL_law 1111 = .ok (.aload_n 3, 1) := by decide +kernel
theorem dL_law_1112 : decode cL_law 1112 = .ok (.invokestatic 145, 3) := by decide +kernel
theorem dL_law_1115 : decode cL_law 1115 = .ok (.istore 5, 2) := by decide +kernel
theorem dL_law_1117 : decode cL_law 1117 = .ok (.aload_n 2, 1) := by decide +kernel
theorem dL_law_1118 : decode cL_law 1118 = .ok (.aload_n 0, 1) := by decide +kernel
theorem dL_law_1119 : decode cL_law 1119 = .ok (.iload 4, 2) := by decide +kernel
theorem dL_law_1121 : decode cL_law 1121 = .ok (.iconst 1, 1) := by decide +kernel
theorem dL_law_1122 : decode cL_law 1122 = .ok (.iadd, 1) := by decide +kernel
theorem dL_law_1123 : decode cL_law 1123 = .ok (.iaload, 1) := by decide +kernel
theorem dL_law_1124 : decode cL_law 1124 = .ok (.aload_n 0, 1) := by decide +kernel
theorem dL_law_1125 : decode cL_law 1125 = .ok (.iload 4, 2) := by decide +kernel
theorem dL_law_1127 : decode cL_law 1127 = .ok (.iconst 2, 1) := by decide +kernel
theorem dL_law_1128 : decode cL_law 1128 = .ok (.iadd, 1) := by decide +kernel
theorem dL_law_1129 : decode cL_law 1129 = .ok (.iaload, 1) := by decide +kernel
theorem dL_law_1130 : decode cL_law 1130 = .ok (.invokevirtual 147, 3) := by decide +kernel
theorem dL_law_1133 : decode cL_law 1133 = .ok (.istore 6, 2) := by decide +kernel
theorem dL_law_1135 : decode cL_law 1135 = .ok (.aload_n 2, 1) := by decide +kernel
theorem dL_law_1136 : decode cL_law 1136 = .ok (.invokevirtual 92, 3) := by decide +kernel
theorem dL_law_1139 : decode cL_law 1139 = .ok (.iload 5, 2) := by decide +kernel
theorem dL_law_1141 : decode cL_law 1141 = .ok (.if_icmp .eq 5, 3) := by decide +kernel
theorem dL_law_1144 : decode cL_law 1144 = .ok (.iconst 0, 1) := by decide +kernel
theorem dL_law_1145 : decode cL_law 1145 = .ok (.ireturn, 1) := by decide +kernel
theorem dL_law_1146 : decode cL_law 1146 = .ok (.iload 5, 2) := by decide +kernel
theorem dL_law_1148 : decode cL_law 1148 = .ok (.ifCond .ne 15, 3) := by decide +kernel
theorem dL_law_1151 : decode cL_law 1151 = .ok (.aload_n 3, 1) := by decide +kernel
theorem dL_law_1152 : decode cL_law 1152 = .ok (.iconst 0, 1) := by decide +kernel
theorem dL_law_1153 : decode cL_law 1153 = .ok (.laload, 1) := by decide +kernel
theorem dL_law_1154 : decode cL_law 1154 = .ok (.iload 6, 2) := by decide +kernel
theorem dL_law_1156 : decode cL_law 1156 = .ok (.i2l, 1) := by decide +kernel
theorem dL_law_1157 : decode cL_law 1157 = .ok (.lcmp, 1) := by decide +kernel
theorem dL_law_1158 : decode cL_law 1158 = .ok (.ifCond .eq 5, 3) := by decide +kernel
theorem dL_law_1161 : decode cL_law 1161 = .ok (.iconst 0, 1) := by decide +kernel
theorem dL_law_1162 : decode cL_law 1162 = .ok (.ireturn, 1) := by decide +kernel
theorem dL_law_1163 : decode cL_law 1163 = .ok (.goto 455, 3) := by decide +kernel
theorem dL_law_1166 : decode cL_law 1166 = .ok (.aload_n 1, 1) := by decide +kernel
theorem dL_law_1167 : decode cL_law 1167 = .ok (.aload_n 0, 1) := by decide +kernel
theorem dL_law_1168 : decode cL_law 1168 = .ok (.iload 4, 2) := by decide +kernel
theorem dL_law_1170 : decode cL_law 1170 = .ok (.iconst 1, 1) := by decide +kernel
theorem dL_law_1171 : decode cL_law 1171 = .ok (.iadd, 1) := by decide +kernel
theorem dL_law_1172 : decode cL_law 1172 = .ok (.iaload, 1) := by decide +kernel
theorem dL_law_1173 : decode cL_law 1173 = .ok (.aload_n 0, 1) := by decide +kernel
theorem dL_law_1174 : decode cL_law 1174 = .ok (.iload 4, 2) := by decide +kernel
theorem dL_law_1176 : decode cL_law 1176 = .ok (.iconst 2, 1) := by decide +kernel
theorem dL_law_1177 : decode cL_law 1177 = .ok (.iadd, 1) := by decide +kernel
theorem dL_law_1178 : decode cL_law 1178 = .ok (.iaload, 1) := by decide +kernel
theorem dL_law_1179 : decode cL_law 1179 = .ok (.aload_n 3, 1) := by decide +kernel
theorem dL_law_1180 : decode cL_law 1180 = .ok (.invokestatic 148, 3) := by decide +kernel
theorem dL_law_1183 : decode cL_law 1183 = .ok (.istore 5, 2) := by decide +kernel
theorem dL_law_1185 : decode cL_law 1185 = .ok (.aload_n 2, 1) := by decide +kernel
theorem dL_law_1186 : decode cL_law 1186 = .ok (.aload_n 0, 1) := by decide +kernel
theorem dL_law_1187 : decode cL_law 1187 = .ok (.iload 4, 2) := by decide +kernel
theorem dL_law_1189 : decode cL_law 1189 = .ok (.iconst 1, 1) := by decide +kernel
theorem dL_law_1190 : decode cL_law 1190 = .ok (.iadd, 1) := by decide +kernel
theorem dL_law_1191 : decode cL_law 1191 = .ok (.iaload, 1) := by decide +kernel
theorem dL_law_1192 : decode cL_law 1192 = .ok (.aload_n 0, 1) := by decide +kernel
theorem dL_law_1193 : decode cL_law 1193 = .ok (.iload 4, 2) := by decide +kernel
theorem dL_law_1195 : decode cL_law 1195 = .ok (.iconst 2, 1) := by decide +kernel
theorem dL_law_1196 : decode cL_law 1196 = .ok (.iadd, 1) := by decide +kernel
theorem dL_law_1197 : decode cL_law 1197 = .ok (.iaload, 1) := by decide +kernel
theorem dL_law_1198 : decode cL_law 1198 = .ok (.invokevirtual 150, 3) := by decide +kernel
theorem dL_law_1201 : decode cL_law 1201 = .ok (.istore 6, 2) := by decide +kernel
theorem dL_law_1203 : decode cL_law 1203 = .ok (.aload_n 2, 1) := by decide +kernel
theorem dL_law_1204 : decode cL_law 1204 = .ok (.invokevirtual 92, 3) := by decide +kernel
theorem dL_law_1207 : decode cL_law 1207 = .ok (.iload 5, 2) := by decide +kernel
theorem dL_law_1209 : decode cL_law 1209 = .ok (.if_icmp .eq 5, 3) := by decide +kernel
theorem dL_law_1212 : decode cL_law 1212 = .ok (.iconst 0, 1) := by decide +kernel
theorem dL_law_1213 : decode cL_law 1213 = .ok (.ireturn, 1) := by decide +kernel
theorem dL_law_1214 : decode cL_law 1214 = .ok (.iload 5, 2) := by decide +kernel
theorem dL_law_1216 : decode cL_law 1216 = .ok (.ifCond .ne 15, 3) := by decide +kernel
theorem dL_law_1219 : decode cL_law 1219 = .ok (.aload_n 3, 1) := by decide +kernel
theorem dL_law_1220 : decode cL_law 1220 = .ok (.iconst 0, 1) := by decide +kernel
theorem dL_law_1221 : decode cL_law 1221 = .ok (.laload, 1) := by decide +kernel
theorem dL_law_1222 : decode cL_law 1222 = .ok (.iload 6, 2) := by decide +kernel
theorem dL_law_1224 : decode cL_law 1224 = .ok (.i2l, 1) := by decide +kernel
theorem dL_law_1225 : decode cL_law 1225 = .ok (.lcmp, 1) := by decide +kernel
theorem dL_law_1226 : decode cL_law 1226 = .ok (.ifCond .eq 5, 3) := by decide +kernel
theorem dL_law_1229 : decode cL_law 1229 = .ok (.iconst 0, 1) := by decide +kernel
theorem dL_law_1230 : decode cL_law 1230 = .ok (.ireturn, 1) := by decide +kernel
theorem dL_law_1231 : decode cL_law 1231 = .ok (.goto 387, 3) := by decide +kernel
theorem dL_law_1234 : decode cL_law 1234 = .ok (.aload_n 1, 1) := by decide +kernel
theorem dL_law_1235 : decode cL_law 1235 = .ok (.aload_n 0, 1) := by decide +kernel
theorem dL_law_1236 : decode cL_law 1236 = .ok (.iload 4, 2) := by decide +kernel
theorem dL_law_1238 : decode cL_law 1238 = .ok (.iconst 1, 1) := by decide +kernel
theorem dL_law_1239 : decode cL_law 1239 = .ok (.iadd, 1) := by decide +kernel
theorem dL_law_1240 : decode cL_law 1240 = .ok (.iaload, 1) := by decide +kernel
theorem dL_law_1241 : decode cL_law 1241 = .ok (.aload_n 3, 1) := by decide +kernel
theorem dL_law_1242 : decode cL_law 1242 = .ok (.invokestatic 151, 3) := by decide +kernel
theorem dL_law_1245 : decode cL_law 1245 = .ok (.istore 5, 2) := by decide +kernel
theorem dL_law_1247 : decode cL_law 1247 = .ok (.aload_n 2, 1) := by decide +kernel
theorem dL_law_1248 : decode cL_law 1248 = .ok (.aload_n 0, 1) := by decide +kernel
theorem dL_law_1249 : decode cL_law 1249 = .ok (.iload 4, 2) := by decide +kernel
theorem dL_law_1251 : decode cL_law 1251 = .ok (.iconst 1, 1) := by decide +kernel
theorem dL_law_1252 : decode cL_law 1252 = .ok (.iadd, 1) := by decide +kernel
theorem dL_law_1253 : decode cL_law 1253 = .ok (.iaload, 1) := by decide +kernel
theorem dL_law_1254 : decode cL_law 1254 = .ok (.invokevirtual 153, 3) := by decide +kernel
theorem dL_law_1257 : decode cL_law 1257 = .ok (.istore 6, 2) := by decide +kernel
theorem dL_law_1259 : decode cL_law 1259 = .ok (.aload_n 2, 1) := by decide +kernel
theorem dL_law_1260 : decode cL_law 1260 = .ok (.invokevirtual 92, 3) := by decide +kernel
theorem dL_law_1263 : decode cL_law 1263 = .ok (.iload 5, 2) := by decide +kernel
theorem dL_law_1265 : decode cL_law 1265 = .ok (.if_icmp .eq 5, 3) := by decide +kernel
theorem dL_law_1268 : decode cL_law 1268 = .ok (.iconst 0, 1) := by decide +kernel
theorem dL_law_1269 : decode cL_law 1269 = .ok (.ireturn, 1) := by decide +kernel
theorem dL_law_1270 : decode cL_law 1270 = .ok (.iload 5, 2) := by decide +kernel
theorem dL_law_1272 : decode cL_law 1272 = .ok (.ifCond .ne 15, 3) := by decide +kernel
theorem dL_law_1275 : decode cL_law 1275 = .ok (.aload_n 3, 1) := by decide +kernel
theorem dL_law_1276 : decode cL_law 1276 = .ok (.iconst 0, 1) := by decide +kernel
theorem dL_law_1277 : decode cL_law 1277 = .ok (.laload, 1) := by decide +kernel
theorem dL_law_1278 : decode cL_law 1278 = .ok (.iload 6, 2) := by decide +kernel
theorem dL_law_1280 : decode cL_law 1280 = .ok (.i2l, 1) := by decide +kernel
theorem dL_law_1281 : decode cL_law 1281 = .ok (.lcmp, 1) := by decide +kernel
theorem dL_law_1282 : decode cL_law 1282 = .ok (.ifCond .eq 5, 3) := by decide +kernel
theorem dL_law_1285 : decode cL_law 1285 = .ok (.iconst 0, 1) := by decide +kernel
theorem dL_law_1286 : decode cL_law 1286 = .ok (.ireturn, 1) := by decide +kernel
theorem dL_law_1287 : decode cL_law 1287 = .ok (.goto 331, 3) := by decide +kernel
theorem dL_law_1290 : decode cL_law 1290 = .ok (.aload_n 1, 1) := by decide +kernel
theorem dL_law_1291 : decode cL_law 1291 = .ok (.aload_n 0, 1) := by decide +kernel
theorem dL_law_1292 : decode cL_law 1292 = .ok (.iload 4, 2) := by decide +kernel
theorem dL_law_1294 : decode cL_law 1294 = .ok (.iconst 1, 1) := by decide +kernel
theorem dL_law_1295 : decode cL_law 1295 = .ok (.iadd, 1) := by decide +kernel
theorem dL_law_1296 : decode cL_law 1296 = .ok (.iaload, 1) := by decide +kernel
theorem dL_law_1297 : decode cL_law 1297 = .ok (.aload_n 3, 1) := by decide +kernel
theorem dL_law_1298 : decode cL_law 1298 = .ok (.invokestatic 154, 3) := by decide +kernel
theorem dL_law_1301 : decode cL_law 1301 = .ok (.istore 5, 2) := by decide +kernel
theorem dL_law_1303 : decode cL_law 1303 = .ok (.aload_n 2, 1) := by decide +kernel
theorem dL_law_1304 : decode cL_law 1304 = .ok (.aload_n 0, 1) := by decide +kernel
theorem dL_law_1305 : decode cL_law 1305 = .ok (.iload 4, 2) := by decide +kernel
theorem dL_law_1307 : decode cL_law 1307 = .ok (.iconst 1, 1) := by decide +kernel
theorem dL_law_1308 : decode cL_law 1308 = .ok (.iadd, 1) := by decide +kernel
theorem dL_law_1309 : decode cL_law 1309 = .ok (.iaload, 1) := by decide +kernel
theorem dL_law_1310 : decode cL_law 1310 = .ok (.invokevirtual 156, 3) := by decide +kernel
theorem dL_law_1313 : decode cL_law 1313 = .ok (.istore 6, 2) := by decide +kernel
theorem dL_law_1315 : decode cL_law 1315 = .ok (.aload_n 2, 1) := by decide +kernel
theorem dL_law_1316 : decode cL_law 1316 = .ok (.invokevirtual 92, 3) := by decide +kernel
theorem dL_law_1319 : decode cL_law 1319 = .ok (.iload 5, 2) := by decide +kernel
theorem dL_law_1321 : decode cL_law 1321 = .ok (.if_icmp .eq 5, 3) := by decide +kernel
theorem dL_law_1324 : decode cL_law 1324 = .ok (.iconst 0, 1) := by decide +kernel
theorem dL_law_1325 : decode cL_law 1325 = .ok (.ireturn, 1) := by decide +kernel
theorem dL_law_1326 : decode cL_law 1326 = .ok (.iload 5, 2) := by decide +kernel
theorem dL_law_1328 : decode cL_law 1328 = .ok (.ifCond .ne 15, 3) := by decide +kernel
theorem dL_law_1331 : decode cL_law 1331 = .ok (.aload_n 3, 1) := by decide +kernel
theorem dL_law_1332 : decode cL_law 1332 = .ok (.iconst 0, 1) := by decide +kernel
theorem dL_law_1333 : decode cL_law 1333 = .ok (.laload, 1) := by decide +kernel
theorem dL_law_1334 : decode cL_law 1334 = .ok (.iload 6, 2) := by decide +kernel
theorem dL_law_1336 : decode cL_law 1336 = .ok (.i2l, 1) := by decide +kernel
theorem dL_law_1337 : decode cL_law 1337 = .ok (.lcmp, 1) := by decide +kernel
theorem dL_law_1338 : decode cL_law 1338 = .ok (.ifCond .eq 5, 3) := by decide +kernel
theorem dL_law_1341 : decode cL_law 1341 = .ok (.iconst 0, 1) := by decide +kernel
theorem dL_law_1342 : decode cL_law 1342 = .ok (.ireturn, 1) := by decide +kernel
theorem dL_law_1343 : decode cL_law 1343 = .ok (.goto 275, 3) := by decide +kernel
theorem dL_law_1346 : decode cL_law 1346 = .ok (.aload_n 1, 1) := by decide +kernel
theorem dL_law_1347 : decode cL_law 1347 = .ok (.aload_n 0, 1) := by decide +kernel
theorem dL_law_1348 : decode cL_law 1348 = .ok (.iload 4, 2) := by decide +kernel
theorem dL_law_1350 : decode cL_law 1350 = .ok (.iconst 1, 1) := by decide +kernel
theorem dL_law_1351 : decode cL_law 1351 = .ok (.iadd, 1) := by decide +kernel
theorem dL_law_1352 : decode cL_law 1352 = .ok (.iaload, 1) := by decide +kernel
theorem dL_law_1353 : decode cL_law 1353 = .ok (.aload_n 0, 1) := by decide +kernel
theorem dL_law_1354 : decode cL_law 1354 = .ok (.iload 4, 2) := by decide +kernel
theorem dL_law_1356 : decode cL_law 1356 = .ok (.iconst 2, 1) := by decide +kernel
theorem dL_law_1357 : decode cL_law 1357 = .ok (.iadd, 1) := by decide +kernel
theorem dL_law_1358 : decode cL_law 1358 = .ok (.iaload, 1) := by decide +kernel
theorem dL_law_1359 : decode cL_law 1359 = .ok (.aload_n 0, 1) := by decide +kernel
theorem dL_law_1360 : decode cL_law 1360 = .ok (.iload 4, 2) := by decide +kernel
theorem dL_law_1362 : decode cL_law 1362 = .ok (.iconst 3, 1) := by decide +kernel
theorem dL_law_1363 : decode cL_law 1363 = .ok (.iadd, 1) := by decide +kernel
theorem dL_law_1364 : decode cL_law 1364 = .ok (.iaload, 1) := by decide +kernel
theorem dL_law_1365 : decode cL_law 1365 = .ok (.aload_n 3, 1) := by decide +kernel
theorem dL_law_1366 : decode cL_law 1366 = .ok (.invokestatic 157, 3) := by decide +kernel
theorem dL_law_1369 : decode cL_law 1369 = .ok (.istore 5, 2) := by decide +kernel
theorem dL_law_1371 : decode cL_law 1371 = .ok (.aload_n 2, 1) := by decide +kernel
theorem dL_law_1372 : decode cL_law 1372 = .ok (.aload_n 0, 1) := by decide +kernel
theorem dL_law_1373 : decode cL_law 1373 = .ok (.iload 4, 2) := by decide +kernel
theorem dL_law_1375 : decode cL_law 1375 = .ok (.iconst 1, 1) := by decide +kernel
theorem dL_law_1376 : decode cL_law 1376 = .ok (.iadd, 1) := by decide +kernel
theorem dL_law_1377 : decode cL_law 1377 = .ok (.iaload, 1) := by decide +kernel
theorem dL_law_1378 : decode cL_law 1378 = .ok (.aload_n 0, 1) := by decide +kernel
theorem dL_law_1379 : decode cL_law 1379 = .ok (.iload 4, 2) := by decide +kernel
theorem dL_law_1381 : decode cL_law 1381 = .ok (.iconst 2, 1) := by decide +kernel
theorem dL_law_1382 : decode cL_law 1382 = .ok (.iadd, 1) := by decide +kernel
theorem dL_law_1383 : decode cL_law 1383 = .ok (.iaload, 1) := by decide +kernel
theorem dL_law_1384 : decode cL_law 1384 = .ok (.aload_n 0, 1) := by decide +kernel
theorem dL_law_1385 : decode cL_law 1385 = .ok (.iload 4, 2) := by decide +kernel
theorem dL_law_1387 : decode cL_law 1387 = .ok (.iconst 3, 1) := by decide +kernel
theorem dL_law_1388 : decode cL_law 1388 = .ok (.iadd, 1) := by decide +kernel
theorem dL_law_1389 : decode cL_law 1389 = .ok (.iaload, 1) := by decide +kernel
theorem dL_law_1390 : decode cL_law 1390 = .ok (.invokevirtual 159, 3) := by decide +kernel
theorem dL_law_1393 : decode cL_law 1393 = .ok (.istore 6, 2) := by decide +kernel
theorem dL_law_1395 : decode cL_law 1395 = .ok (.aload_n 2, 1) := by decide +kernel
theorem dL_law_1396 : decode cL_law 1396 = .ok (.invokevirtual 92, 3) := by decide +kernel
theorem dL_law_1399 : decode cL_law 1399 = .ok (.iload 5, 2) := by decide +kernel
theorem dL_law_1401 : decode cL_law 1401 = .ok (.if_icmp .eq 5, 3) := by decide +kernel
theorem dL_law_1404 : decode cL_law 1404 = .ok (.iconst 0, 1) := by decide +kernel
theorem dL_law_1405 : decode cL_law 1405 = .ok (.ireturn, 1) := by decide +kernel
theorem dL_law_1406 : decode cL_law 1406 = .ok (.iload 5, 2) := by decide +kernel
theorem dL_law_1408 : decode cL_law 1408 = .ok (.ifCond .ne 15, 3) := by decide +kernel
theorem dL_law_1411 : decode cL_law 1411 = .ok (.aload_n 3, 1) := by decide +kernel
theorem dL_law_1412 : decode cL_law 1412 = .ok (.iconst 0, 1) := by decide +kernel
theorem dL_law_1413 : decode cL_law 1413 = .ok (.laload, 1) := by decide +kernel
theorem dL_law_1414 : decode cL_law 1414 = .ok (.iload 6, 2) := by decide +kernel
theorem dL_law_1416 : decode cL_law 1416 = .ok (.i2l, 1) := by decide +kernel
theorem dL_law_1417 : decode cL_law 1417 = .ok (.lcmp, 1) := by decide +kernel
theorem dL_law_1418 : decode cL_law 1418 = .ok (.ifCond .eq 5, 3) := by decide +kernel
theorem dL_law_1421 : decode cL_law 1421 = .ok (.iconst 0, 1) := by decide +kernel
theorem dL_law_1422 : decode cL_law 1422 = .ok (.ireturn, 1) := by decide +kernel
theorem dL_law_1423 : decode cL_law 1423 = .ok (.goto 195, 3) := by decide +kernel
theorem dL_law_1426 : decode cL_law 1426 = .ok (.aload_n 1, 1) := by decide +kernel
theorem dL_law_1427 : decode cL_law 1427 = .ok (.aload_n 0, 1) := by decide +kernel
theorem dL_law_1428 : decode cL_law 1428 = .ok (.iload 4, 2) := by decide +kernel
theorem dL_law_1430 : decode cL_law 1430 = .ok (.iconst 1, 1) := by decide +kernel
theorem dL_law_1431 : decode cL_law 1431 = .ok (.iadd, 1) := by decide +kernel
theorem dL_law_1432 : decode cL_law 1432 = .ok (.iaload, 1) := by decide +kernel
theorem dL_law_1433 : decode cL_law 1433 = .ok (.aload_n 3, 1) := by decide +kernel
theorem dL_law_1434 : decode cL_law 1434 = .ok (.invokestatic 160, 3) := by decide +kernel
theorem dL_law_1437 : decode cL_law 1437 = .ok (.istore 5, 2) := by decide +kernel
theorem dL_law_1439 : decode cL_law 1439 = .ok (.aload_n 2, 1) := by decide +kernel
theorem dL_law_1440 : decode cL_law 1440 = .ok (.aload_n 0, 1) := by decide +kernel
theorem dL_law_1441 : decode cL_law 1441 = .ok (.iload 4, 2) := by decide +kernel
theorem dL_law_1443 : decode cL_law 1443 = .ok (.iconst 1, 1) := by decide +kernel
theorem dL_law_1444 : decode cL_law 1444 = .ok (.iadd, 1) := by decide +kernel
theorem dL_law_1445 : decode cL_law 1445 = .ok (.iaload, 1) := by decide +kernel
theorem dL_law_1446 : decode cL_law 1446 = .ok (.invokevirtual 162, 3) := by decide +kernel
theorem dL_law_1449 : decode cL_law 1449 = .ok (.istore 6, 2) := by decide +kernel
theorem dL_law_1451 : decode cL_law 1451 = .ok (.aload_n 2, 1) := by decide +kernel
theorem dL_law_1452 : decode cL_law 1452 = .ok (.invokevirtual 92, 3) := by decide +kernel
theorem dL_law_1455 : decode cL_law 1455 = .ok (.iload 5, 2) := by decide +kernel
theorem dL_law_1457 : decode cL_law 1457 = .ok (.if_icmp .eq 5, 3) := by decide +kernel
theorem dL_law_1460 : decode cL_law 1460 = .ok (.iconst 0, 1) := by decide +kernel
theorem dL_law_1461 : decode cL_law 1461 = .ok (.ireturn, 1) := by decide +kernel
theorem dL_law_1462 : decode cL_law 1462 = .ok (.iload 5, 2) := by decide +kernel
theorem dL_law_1464 : decode cL_law 1464 = .ok (.ifCond .ne 15, 3) := by decide +kernel
theorem dL_law_1467 : decode cL_law 1467 = .ok (.aload_n 3, 1) := by decide +kernel
theorem dL_law_1468 : decode cL_law 1468 = .ok (.iconst 0, 1) := by decide +kernel
theorem dL_law_1469 : decode cL_law 1469 = .ok (.laload, 1) := by decide +kernel
theorem dL_law_1470 : decode cL_law 1470 = .ok (.iload 6, 2) := by decide +kernel
theorem dL_law_1472 : decode cL_law 1472 = .ok (.i2l, 1) := by decide +kernel
theorem dL_law_1473 : decode cL_law 1473 = .ok (.lcmp, 1) := by decide +kernel
theorem dL_law_1474 : decode cL_law 1474 = .ok (.ifCond .eq 5, 3) := by decide +kernel
theorem dL_law_1477 : decode cL_law 1477 = .ok (.iconst 0, 1) := by decide +kernel
theorem dL_law_1478 : decode cL_law 1478 = .ok (.ireturn, 1) := by decide +kernel
theorem dL_law_1479 : decode cL_law 1479 = .ok (.goto 139, 3) := by decide +kernel
theorem dL_law_1482 : decode cL_law 1482 = .ok (.aload_n 1, 1) := by decide +kernel
theorem dL_law_1483 : decode cL_law 1483 = .ok (.invokevirtual 163, 3) := by decide +kernel
theorem dL_law_1486 : decode cL_law 1486 = .ok (.aload_n 2, 1) := by decide +kernel
theorem dL_law_1487 : decode cL_law 1487 = .ok (.invokevirtual 166, 3) := by decide +kernel
theorem dL_law_1490 : decode cL_law 1490 = .ok (.if_icmp .eq 128, 3) := by decide +kernel
theorem dL_law_1493 : decode cL_law 1493 = .ok (.iconst 0, 1) := by decide +kernel
theorem dL_law_1494 : decode cL_law 1494 = .ok (.ireturn, 1) := by decide +kernel
theorem dL_law_1495 : decode cL_law 1495 = .ok (.aload_n 1, 1) := by decide +kernel
theorem dL_law_1496 : decode cL_law 1496 = .ok (.aload_n 0, 1) := by decide +kernel
theorem dL_law_1497 : decode cL_law 1497 = .ok (.iload 4, 2) := by decide +kernel
theorem dL_law_1499 : decode cL_law 1499 = .ok (.iconst 1, 1) := by decide +kernel
theorem dL_law_1500 : decode cL_law 1500 = .ok (.iadd, 1) := by decide +kernel
theorem dL_law_1501 : decode cL_law 1501 = .ok (.iaload, 1) := by decide +kernel
theorem dL_law_1502 : decode cL_law 1502 = .ok (.aload_n 0, 1) := by decide +kernel
theorem dL_law_1503 : decode cL_law 1503 = .ok (.iload 4, 2) := by decide +kernel
theorem dL_law_1505 : decode cL_law 1505 = .ok (.iconst 2, 1) := by decide +kernel
theorem dL_law_1506 : decode cL_law 1506 = .ok (.iadd, 1) := by decide +kernel
theorem dL_law_1507 : decode cL_law 1507 = .ok (.iaload, 1) := by decide +kernel
theorem dL_law_1508 : decode cL_law 1508 = .ok (.aload_n 3, 1) := by decide +kernel
theorem dL_law_1509 : decode cL_law 1509 = .ok (.invokestatic 167, 3) := by decide +kernel
theorem dL_law_1512 : decode cL_law 1512 = .ok (.istore 5, 2) := by decide +kernel
theorem dL_law_1514 : decode cL_law 1514 = .ok (.aload_n 2, 1) := by decide +kernel
theorem dL_law_1515 : decode cL_law 1515 = .ok (.aload_n 0, 1) := by decide +kernel
theorem dL_law_1516 : decode cL_law 1516 = .ok (.iload 4, 2) := by decide +kernel
theorem dL_law_1518 : decode cL_law 1518 = .ok (.iconst 1, 1) := by decide +kernel
theorem dL_law_1519 : decode cL_law 1519 = .ok (.iadd, 1) := by decide +kernel
theorem dL_law_1520 : decode cL_law 1520 = .ok (.iaload, 1) := by decide +kernel
theorem dL_law_1521 : decode cL_law 1521 = .ok (.aload_n 0, 1) := by decide +kernel
theorem dL_law_1522 : decode cL_law 1522 = .ok (.iload 4, 2) := by decide +kernel
theorem dL_law_1524 : decode cL_law 1524 = .ok (.iconst 2, 1) := by decide +kernel
theorem dL_law_1525 : decode cL_law 1525 = .ok (.iadd, 1) := by decide +kernel
theorem dL_law_1526 : decode cL_law 1526 = .ok (.iaload, 1) := by decide +kernel
theorem dL_law_1527 : decode cL_law 1527 = .ok (.invokevirtual 169, 3) := by decide +kernel
theorem dL_law_1530 : decode cL_law 1530 = .ok (.istore 6, 2) := by decide +kernel
theorem dL_law_1532 : decode cL_law 1532 = .ok (.aload_n 2, 1) := by decide +kernel
theorem dL_law_1533 : decode cL_law 1533 = .ok (.invokevirtual 92, 3) := by decide +kernel
theorem dL_law_1536 : decode cL_law 1536 = .ok (.iload 5, 2) := by decide +kernel
theorem dL_law_1538 : decode cL_law 1538 = .ok (.if_icmp .eq 5, 3) := by decide +kernel
theorem dL_law_1541 : decode cL_law 1541 = .ok (.iconst 0, 1) := by decide +kernel
theorem dL_law_1542 : decode cL_law 1542 = .ok (.ireturn, 1) := by decide +kernel
theorem dL_law_1543 : decode cL_law 1543 = .ok (.iload 5, 2) := by decide +kernel
theorem dL_law_1545 : decode cL_law 1545 = .ok (.ifCond .ne 15, 3) := by decide +kernel
theorem dL_law_1548 : decode cL_law 1548 = .ok (.aload_n 3, 1) := by decide +kernel
theorem dL_law_1549 : decode cL_law 1549 = .ok (.iconst 0, 1) := by decide +kernel
theorem dL_law_1550 : decode cL_law 1550 = .ok (.laload, 1) := by decide +kernel
theorem dL_law_1551 : decode cL_law 1551 = .ok (.iload 6, 2) := by decide +kernel
theorem dL_law_1553 : decode cL_law 1553 = .ok (.i2l, 1) := by decide +kernel
theorem dL_law_1554 : decode cL_law 1554 = .ok (.lcmp, 1) := by decide +kernel
theorem dL_law_1555 : decode cL_law 1555 = .ok (.ifCond .eq 5, 3) := by decide +kernel
theorem dL_law_1558 : decode cL_law 1558 = .ok (.iconst 0, 1) := by decide +kernel
theorem dL_law_1559 : decode cL_law 1559 = .ok (.ireturn, 1) := by decide +kernel
theorem dL_law_1560 : decode cL_law 1560 = .ok (.goto 58, 3) := by decide +kernel
theorem dL_law_1563 : decode cL_law 1563 = .ok (.aload_n 1, 1) := by decide +kernel
theorem dL_law_1564 : decode cL_law 1564 = .ok (.invokevirtual 170, 3) := by decide +kernel
theorem dL_law_1567 : decode cL_law 1567 = .ok (.dstore 5, 2) := by decide +kernel
theorem dL_law_1569 : decode cL_law 1569 = .ok (.aload_n 2, 1) := by decide +kernel
theorem dL_law_1570 : decode cL_law 1570 = .ok (.invokevirtual 174, 3) := by decide +kernel
theorem dL_law_1573 : decode cL_law 1573 = .ok (.dstore 7, 2) := by decide +kernel
theorem dL_law_1575 : decode cL_law 1575 = .ok (.dload 5, 2) := by decide +kernel
theorem dL_law_1577 : decode cL_law 1577 = .ok (.dload 7, 2) := by decide +kernel
theorem dL_law_1579 : decode cL_law 1579 = .ok (.dcmp .l, 1) := by decide +kernel
theorem dL_law_1580 : decode cL_law 1580 = .ok (.ifCond .eq 21, 3) := by decide +kernel
theorem dL_law_1583 : decode cL_law 1583 = .ok (.dload 5, 2) := by decide +kernel
theorem dL_law_1585 : decode cL_law 1585 = .ok (.dload 5, 2) := by decide +kernel
theorem dL_law_1587 : decode cL_law 1587 = .ok (.dcmp .l, 1) := by decide +kernel
theorem dL_law_1588 : decode cL_law 1588 = .ok (.ifCond .eq 11, 3) := by decide +kernel
theorem dL_law_1591 : decode cL_law 1591 = .ok (.dload 7, 2) := by decide +kernel
theorem dL_law_1593 : decode cL_law 1593 = .ok (.dload 7, 2) := by decide +kernel
theorem dL_law_1595 : decode cL_law 1595 = .ok (.dcmp .l, 1) := by decide +kernel
theorem dL_law_1596 : decode cL_law 1596 = .ok (.ifCond .ne 5, 3) := by decide +kernel
theorem dL_law_1599 : decode cL_law 1599 = .ok (.iconst 0, 1) := by decide +kernel
theorem dL_law_1600 : decode cL_law 1600 = .ok (.ireturn, 1) := by decide +kernel
theorem dL_law_1601 : decode cL_law 1601 = .ok (.goto 17, 3) := by decide +kernel
theorem dL_law_1604 : decode cL_law 1604 = .ok (.aload_n 1, 1) := by decide +kernel
theorem dL_law_1605 : decode cL_law 1605 = .ok (.invokevirtual 175, 3) := by decide +kernel
theorem dL_law_1608 : decode cL_law 1608 = .ok (.aload_n 2, 1) := by decide +kernel
theorem dL_law_1609 : decode cL_law 1609 = .ok (.invokevirtual 179, 3) := by decide +kernel
theorem dL_law_1612 : decode cL_law 1612 = .ok (.lcmp, 1) := by decide +kernel
theorem dL_law_1613 : decode cL_law 1613 = .ok (.ifCond .eq 5, 3) := by decide +kernel
theorem dL_law_1616 : decode cL_law 1616 = .ok (.iconst 0, 1) := by decide +kernel
theorem dL_law_1617 : decode cL_law 1617 = .ok (.ireturn, 1) := by decide +kernel
theorem dL_law_1618 : decode cL_law 1618 = .ok (.iinc 4 4, 3) := by decide +kernel
theorem dL_law_1621 : decode cL_law 1621 = .ok (.goto (-1598), 3) := by decide +kernel
theorem dL_law_1624 : decode cL_law 1624 = .ok (.iconst 1, 1) := by decide +kernel
theorem dL_law_1625 : decode cL_law 1625 = .ok (.ireturn, 1) := by decide +kernel
