/-! ===== words of the tables that the walks use, by their places (printed by gen.py) ===== -/
set_option maxRecDepth 100000 in
theorem f_X0_14 : (Jvm.Cond.fieldLink "BufferLoans$Desk" (14 : Nat) "BufferLoans$Desk" "projects" "LBufferLoans$Table;") ∈ bw_L := bw_memT 54 rfl rfl
set_option maxRecDepth 100000 in
theorem f_X0_20 : (Jvm.Cond.fieldLink "BufferLoans$Desk" (20 : Nat) "BufferLoans$Desk" "tasks" "LBufferLoans$Table;") ∈ bw_L := bw_memT 55 rfl rfl
set_option maxRecDepth 100000 in
theorem f_X0_23 : (Jvm.Cond.fieldLink "BufferLoans$Desk" (23 : Nat) "BufferLoans$Desk" "loans" "LBufferLoans$Table;") ∈ bw_L := bw_memT 56 rfl rfl
set_option maxRecDepth 100000 in
theorem f_X0_30 : (Jvm.Cond.fieldLink "BufferLoans$Desk" (30 : Nat) "BufferLoans$Desk" "settings" "LBufferLoans$Table;") ∈ bw_L := bw_memT 57 rfl rfl
set_option maxRecDepth 100000 in
theorem f_X0_33 : (Jvm.Cond.fieldLink "BufferLoans$Desk" (33 : Nat) "BufferLoans$Desk" "queue" "LBufferLoans$Table;") ∈ bw_L := bw_memT 58 rfl rfl
set_option maxRecDepth 100000 in
theorem f_X0_44 : (Jvm.Cond.fieldLink "BufferLoans$Desk" (44 : Nat) "BufferLoans$Desk" "projectCount" "I") ∈ bw_L := bw_memT 59 rfl rfl
set_option maxRecDepth 100000 in
theorem f_X0_48 : (Jvm.Cond.fieldLink "BufferLoans$Desk" (48 : Nat) "BufferLoans$Desk" "loanCount" "I") ∈ bw_L := bw_memT 60 rfl rfl
set_option maxRecDepth 100000 in
theorem f_X2_22 : (Jvm.Cond.fieldLink "BufferLoans$Reader" (22 : Nat) "BufferLoans$Reader" "number" "I") ∈ bw_L := bw_memT 108 rfl rfl
set_option maxRecDepth 100000 in
theorem f_X2_29 : (Jvm.Cond.fieldLink "BufferLoans$Reader" (29 : Nat) "BufferLoans$Reader" "part" "I") ∈ bw_L := bw_memT 107 rfl rfl
set_option maxRecDepth 100000 in
theorem f_X2_39 : (Jvm.Cond.fieldLink "BufferLoans$Reader" (39 : Nat) "BufferLoans$Reader" "tasks" "I") ∈ bw_L := bw_memT 109 rfl rfl
set_option maxRecDepth 100000 in
theorem f_X3_19 : (Jvm.Cond.fieldLink "BufferLoans$Table" (19 : Nat) "BufferLoans$Table" "cells" "[I") ∈ bw_L := bw_memT 41 rfl rfl
set_option maxRecDepth 100000 in
theorem f_X3_7 : (Jvm.Cond.fieldLink "BufferLoans$Table" (7 : Nat) "BufferLoans$Table" "columns" "I") ∈ bw_L := bw_memT 40 rfl rfl
set_option maxRecDepth 100000 in
theorem f_X4_18 : (Jvm.Cond.fieldLink "BufferLoans$Text" (18 : Nat) "BufferLoans$Text" "reader" "LBufferLoans$Reader;") ∈ bw_L := bw_memT 118 rfl rfl
set_option maxRecDepth 100000 in
theorem f_X4_22 : (Jvm.Cond.fieldLink "BufferLoans$Text" (22 : Nat) "BufferLoans$Text" "length" "I") ∈ bw_L := bw_memT 119 rfl rfl
set_option maxRecDepth 100000 in
theorem f_X4_9 : (Jvm.Cond.fieldLink "BufferLoans$Text" (9 : Nat) "BufferLoans$Text" "codes" "[I") ∈ bw_L := bw_memT 117 rfl rfl
set_option maxRecDepth 100000 in
theorem f_X5_12 : (Jvm.Cond.fieldLink "BufferLoans" (12 : Nat) "BufferLoans" "desk" "LBufferLoans$Desk;") ∈ bw_L := bw_memT 127 rfl rfl
set_option maxRecDepth 100000 in
theorem f_X5_16 : (Jvm.Cond.fieldLink "BufferLoans" (16 : Nat) "BufferLoans" "trial" "LBufferLoans$Desk;") ∈ bw_L := bw_memT 128 rfl rfl
set_option maxRecDepth 100000 in
theorem f_X5_29 : (Jvm.Cond.fieldLink "BufferLoans" (29 : Nat) "BufferLoans" "text" "LBufferLoans$Text;") ∈ bw_L := bw_memT 130 rfl rfl
set_option maxRecDepth 100000 in
theorem f_X6_13 : (Jvm.Cond.fieldLink "BufferLoansModel" (13 : Nat) "BufferLoansModel" "rows" "[I") ∈ bw_L := bw_memT 759 rfl rfl
set_option maxRecDepth 100000 in
theorem f_X6_141 : (Jvm.Cond.fieldLink "BufferLoansModel" (141 : Nat) "BufferLoansModel" "bufferMany" "I") ∈ bw_L := bw_memT 763 rfl rfl
set_option maxRecDepth 100000 in
theorem f_X6_144 : (Jvm.Cond.fieldLink "BufferLoansModel" (144 : Nat) "BufferLoansModel" "place" "I") ∈ bw_L := bw_memT 771 rfl rfl
set_option maxRecDepth 100000 in
theorem f_X6_157 : (Jvm.Cond.fieldLink "BufferLoansModel" (157 : Nat) "BufferLoansModel" "told" "I") ∈ bw_L := bw_memT 772 rfl rfl
set_option maxRecDepth 100000 in
theorem f_X6_16 : (Jvm.Cond.fieldLink "BufferLoansModel" (16 : Nat) "BufferLoansModel" "aside" "[I") ∈ bw_L := bw_memT 760 rfl rfl
set_option maxRecDepth 100000 in
theorem f_X6_19 : (Jvm.Cond.fieldLink "BufferLoansModel" (19 : Nat) "BufferLoansModel" "buffer" "[I") ∈ bw_L := bw_memT 762 rfl rfl
set_option maxRecDepth 100000 in
theorem f_X6_22 : (Jvm.Cond.fieldLink "BufferLoansModel" (22 : Nat) "BufferLoansModel" "order" "[I") ∈ bw_L := bw_memT 765 rfl rfl
set_option maxRecDepth 100000 in
theorem f_X6_226 : (Jvm.Cond.fieldLink "BufferLoansModel" (226 : Nat) "BufferLoansModel" "h" "J") ∈ bw_L := bw_memT 774 rfl rfl
set_option maxRecDepth 100000 in
theorem f_X6_25 : (Jvm.Cond.fieldLink "BufferLoansModel" (25 : Nat) "BufferLoansModel" "read" "[I") ∈ bw_L := bw_memT 773 rfl rfl
set_option maxRecDepth 100000 in
theorem f_X6_28 : (Jvm.Cond.fieldLink "BufferLoansModel" (28 : Nat) "BufferLoansModel" "thrown" "I") ∈ bw_L := bw_memT 764 rfl rfl
set_option maxRecDepth 100000 in
theorem f_X6_32 : (Jvm.Cond.fieldLink "BufferLoansModel" (32 : Nat) "BufferLoansModel" "savedMany" "I") ∈ bw_L := bw_memT 761 rfl rfl
set_option maxRecDepth 100000 in
theorem f_X6_7 : (Jvm.Cond.fieldLink "BufferLoansModel" (7 : Nat) "BufferLoansModel" "z" "[I") ∈ bw_L := bw_memT 758 rfl rfl
set_option maxRecDepth 100000 in
theorem f_X6_74 : (Jvm.Cond.fieldLink "BufferLoansModel" (74 : Nat) "BufferLoansModel" "orderMany" "I") ∈ bw_L := bw_memT 766 rfl rfl
set_option maxRecDepth 100000 in
theorem f_X6_80 : (Jvm.Cond.fieldLink "BufferLoansModel" (80 : Nat) "BufferLoansModel" "called" "I") ∈ bw_L := bw_memT 768 rfl rfl
set_option maxRecDepth 100000 in
theorem f_X6_90 : (Jvm.Cond.fieldLink "BufferLoansModel" (90 : Nat) "BufferLoansModel" "borrowed" "I") ∈ bw_L := bw_memT 769 rfl rfl
set_option maxRecDepth 100000 in
theorem f_X6_93 : (Jvm.Cond.fieldLink "BufferLoansModel" (93 : Nat) "BufferLoansModel" "late" "I") ∈ bw_L := bw_memT 770 rfl rfl
set_option maxRecDepth 100000 in
theorem f_X6_96 : (Jvm.Cond.fieldLink "BufferLoansModel" (96 : Nat) "BufferLoansModel" "owned" "I") ∈ bw_L := bw_memT 767 rfl rfl
set_option maxRecDepth 100000 in
theorem k_X5_269 : (Jvm.Cond.constantLong "BufferLoans" (269 : Nat) (31 : Int64)) ∈ bw_L := bw_memT 270 rfl rfl
set_option maxRecDepth 100000 in
theorem k_X5_273 : (Jvm.Cond.constantLong "BufferLoans" (273 : Nat) (1023 : Int64)) ∈ bw_L := bw_memT 403 rfl rfl
set_option maxRecDepth 100000 in
theorem k_X5_275 : (Jvm.Cond.constantDouble "BufferLoans" (275 : Nat) (4611686018427387904 : UInt64)) ∈ bw_L := bw_memT 404 rfl rfl
set_option maxRecDepth 100000 in
theorem k_X5_277 : (Jvm.Cond.constantDouble "BufferLoans" (277 : Nat) (4841369599423283200 : UInt64)) ∈ bw_L := bw_memT 405 rfl rfl
set_option maxRecDepth 100000 in
theorem k_X6_207 : (Jvm.Cond.constant "BufferLoansModel" (207 : Nat) (1000000 : Int32)) ∈ bw_L := bw_memT 1085 rfl rfl
set_option maxRecDepth 100000 in
theorem k_X6_224 : (Jvm.Cond.constantLong "BufferLoansModel" (224 : Nat) (31 : Int64)) ∈ bw_L := bw_memT 1123 rfl rfl
set_option maxRecDepth 100000 in
theorem l_X0_101 : (Jvm.Cond.methodLink "BufferLoans$Desk" (101 : Nat) ({ cls := "BufferLoans$Desk", name := "weightOfLender", desc := "(II)I" } : Jvm.MethodName)) ∈ bw_L := bw_memT 296 rfl rfl
set_option maxRecDepth 100000 in
theorem l_X0_104 : (Jvm.Cond.methodLink "BufferLoans$Desk" (104 : Nat) ({ cls := "BufferLoans$Table", name := "insertRow", desc := "(I)V" } : Jvm.MethodName)) ∈ bw_L := bw_memT 300 rfl rfl
set_option maxRecDepth 100000 in
theorem l_X0_108 : (Jvm.Cond.methodLink "BufferLoans$Desk" (108 : Nat) ({ cls := "BufferLoans$Desk", name := "placeOfLoan", desc := "(II)I" } : Jvm.MethodName)) ∈ bw_L := bw_memT 219 rfl rfl
set_option maxRecDepth 100000 in
theorem l_X0_111 : (Jvm.Cond.methodLink "BufferLoans$Desk" (111 : Nat) ({ cls := "BufferLoans$Desk", name := "changeLoan", desc := "(II)V" } : Jvm.MethodName)) ∈ bw_L := bw_memT 349 rfl rfl
set_option maxRecDepth 100000 in
theorem l_X0_114 : (Jvm.Cond.methodLink "BufferLoans$Desk" (114 : Nat) ({ cls := "BufferLoans$Desk", name := "moveDays", desc := "(III)V" } : Jvm.MethodName)) ∈ bw_L := bw_memT 357 rfl rfl
set_option maxRecDepth 100000 in
theorem l_X0_117 : (Jvm.Cond.methodLink "BufferLoans$Desk" (117 : Nat) ({ cls := "BufferLoans$Table", name := "removeRow", desc := "(I)V" } : Jvm.MethodName)) ∈ bw_L := bw_memT 353 rfl rfl
set_option maxRecDepth 100000 in
theorem l_X0_120 : (Jvm.Cond.methodLink "BufferLoans$Desk" (120 : Nat) ({ cls := "BufferLoans$Desk", name := "writeOff", desc := "(I)I" } : Jvm.MethodName)) ∈ bw_L := bw_memT 619 rfl rfl
set_option maxRecDepth 100000 in
theorem l_X0_123 : (Jvm.Cond.methodLink "BufferLoans$Desk" (123 : Nat) ({ cls := "BufferLoans$Desk", name := "daysOwed", desc := "(II)I" } : Jvm.MethodName)) ∈ bw_L := bw_memT 215 rfl rfl
set_option maxRecDepth 100000 in
theorem l_X0_126 : (Jvm.Cond.methodLink "BufferLoans$Desk" (126 : Nat) ({ cls := "BufferLoans$Desk", name := "bearableDelay", desc := "(I)I" } : Jvm.MethodName)) ∈ bw_L := bw_memT 203 rfl rfl
set_option maxRecDepth 100000 in
theorem l_X0_36 : (Jvm.Cond.methodLink "BufferLoans$Desk" (36 : Nat) ({ cls := "BufferLoans$Table", name := "put", desc := "(III)V" } : Jvm.MethodName)) ∈ bw_L := bw_memT 50 rfl rfl
set_option maxRecDepth 100000 in
theorem l_X0_51 : (Jvm.Cond.methodLink "BufferLoans$Desk" (51 : Nat) ({ cls := "BufferLoans$Table", name := "get", desc := "(II)I" } : Jvm.MethodName)) ∈ bw_L := bw_memT 211 rfl rfl
set_option maxRecDepth 100000 in
theorem l_X0_55 : (Jvm.Cond.methodLink "BufferLoans$Desk" (55 : Nat) ({ cls := "BufferLoans$Desk", name := "isOpen", desc := "(I)Z" } : Jvm.MethodName)) ∈ bw_L := bw_memT 207 rfl rfl
set_option maxRecDepth 100000 in
theorem l_X0_59 : (Jvm.Cond.methodLink "BufferLoans$Desk" (59 : Nat) ({ cls := "BufferLoans$Desk", name := "lendableDays", desc := "(II)I" } : Jvm.MethodName)) ∈ bw_L := bw_memT 226 rfl rfl
set_option maxRecDepth 100000 in
theorem l_X0_62 : (Jvm.Cond.methodLink "BufferLoans$Desk" (62 : Nat) ({ cls := "BufferLoans$Desk", name := "rowOfTask", desc := "(II)I" } : Jvm.MethodName)) ∈ bw_L := bw_memT 239 rfl rfl
set_option maxRecDepth 100000 in
theorem l_X0_65 : (Jvm.Cond.methodLink "BufferLoans$Desk" (65 : Nat) ({ cls := "BufferLoans$Table", name := "increase", desc := "(III)V" } : Jvm.MethodName)) ∈ bw_L := bw_memT 333 rfl rfl
set_option maxRecDepth 100000 in
theorem l_X0_68 : (Jvm.Cond.methodLink "BufferLoans$Desk" (68 : Nat) ({ cls := "java/lang/Math", name := "max", desc := "(II)I" } : Jvm.MethodName)) ∈ bw_L := bw_memT 230 rfl rfl
set_option maxRecDepth 100000 in
theorem l_X0_73 : (Jvm.Cond.methodLink "BufferLoans$Desk" (73 : Nat) ({ cls := "BufferLoans$Desk", name := "useDays", desc := "(II)V" } : Jvm.MethodName)) ∈ bw_L := bw_memT 337 rfl rfl
set_option maxRecDepth 100000 in
theorem l_X0_76 : (Jvm.Cond.methodLink "BufferLoans$Desk" (76 : Nat) ({ cls := "BufferLoans$Desk", name := "repay", desc := "(II)V" } : Jvm.MethodName)) ∈ bw_L := bw_memT 341 rfl rfl
set_option maxRecDepth 100000 in
theorem l_X0_79 : (Jvm.Cond.methodLink "BufferLoans$Desk" (79 : Nat) ({ cls := "java/lang/Math", name := "min", desc := "(II)I" } : Jvm.MethodName)) ∈ bw_L := bw_memT 223 rfl rfl
set_option maxRecDepth 100000 in
theorem l_X0_82 : (Jvm.Cond.methodLink "BufferLoans$Desk" (82 : Nat) ({ cls := "BufferLoans$Desk", name := "callBack", desc := "(II)I" } : Jvm.MethodName)) ∈ bw_L := bw_memT 361 rfl rfl
set_option maxRecDepth 100000 in
theorem l_X0_85 : (Jvm.Cond.methodLink "BufferLoans$Desk" (85 : Nat) ({ cls := "BufferLoans$Desk", name := "borrow", desc := "(II)I" } : Jvm.MethodName)) ∈ bw_L := bw_memT 365 rfl rfl
set_option maxRecDepth 100000 in
theorem l_X0_88 : (Jvm.Cond.methodLink "BufferLoans$Desk" (88 : Nat) ({ cls := "BufferLoans$Desk", name := "hasNextTask", desc := "(I)Z" } : Jvm.MethodName)) ∈ bw_L := bw_memT 373 rfl rfl
set_option maxRecDepth 100000 in
theorem l_X0_91 : (Jvm.Cond.methodLink "BufferLoans$Desk" (91 : Nat) ({ cls := "BufferLoans$Desk", name := "payLoan", desc := "(II)V" } : Jvm.MethodName)) ∈ bw_L := bw_memT 345 rfl rfl
set_option maxRecDepth 100000 in
theorem l_X0_94 : (Jvm.Cond.methodLink "BufferLoans$Desk" (94 : Nat) ({ cls := "BufferLoans$Desk", name := "queueLenders", desc := "(I)I" } : Jvm.MethodName)) ∈ bw_L := bw_memT 292 rfl rfl
set_option maxRecDepth 100000 in
theorem l_X0_98 : (Jvm.Cond.methodLink "BufferLoans$Desk" (98 : Nat) ({ cls := "BufferLoans$Desk", name := "lendDays", desc := "(III)V" } : Jvm.MethodName)) ∈ bw_L := bw_memT 369 rfl rfl
set_option maxRecDepth 100000 in
theorem l_X2_11 : (Jvm.Cond.methodLink "BufferLoans$Reader" (11 : Nat) ({ cls := "BufferLoans$Reader", name := "begin", desc := "(I)V" } : Jvm.MethodName)) ∈ bw_L := bw_memT 164 rfl rfl
set_option maxRecDepth 100000 in
theorem l_X2_15 : (Jvm.Cond.methodLink "BufferLoans$Reader" (15 : Nat) ({ cls := "BufferLoans$Reader", name := "isDigit", desc := "(I)Z" } : Jvm.MethodName)) ∈ bw_L := bw_memT 176 rfl rfl
set_option maxRecDepth 100000 in
theorem l_X2_19 : (Jvm.Cond.methodLink "BufferLoans$Reader" (19 : Nat) ({ cls := "BufferLoans$Reader", name := "takesDigit", desc := "(I)Z" } : Jvm.MethodName)) ∈ bw_L := bw_memT 179 rfl rfl
set_option maxRecDepth 100000 in
theorem l_X2_26 : (Jvm.Cond.methodLink "BufferLoans$Reader" (26 : Nat) ({ cls := "BufferLoans$Reader", name := "takesSign", desc := "(I)Z" } : Jvm.MethodName)) ∈ bw_L := bw_memT 191 rfl rfl
set_option maxRecDepth 100000 in
theorem l_X2_32 : (Jvm.Cond.methodLink "BufferLoans$Reader" (32 : Nat) ({ cls := "BufferLoans$Reader", name := "leastNumber", desc := "()I" } : Jvm.MethodName)) ∈ bw_L := bw_memT 183 rfl rfl
set_option maxRecDepth 100000 in
theorem l_X2_36 : (Jvm.Cond.methodLink "BufferLoans$Reader" (36 : Nat) ({ cls := "BufferLoans$Reader", name := "greatestNumber", desc := "()I" } : Jvm.MethodName)) ∈ bw_L := bw_memT 187 rfl rfl
set_option maxRecDepth 100000 in
theorem l_X4_26 : (Jvm.Cond.methodLink "BufferLoans$Text" (26 : Nat) ({ cls := "BufferLoans$Reader", name := "start", desc := "()V" } : Jvm.MethodName)) ∈ bw_L := bw_memT 160 rfl rfl
set_option maxRecDepth 100000 in
theorem l_X4_29 : (Jvm.Cond.methodLink "BufferLoans$Text" (29 : Nat) ({ cls := "BufferLoans$Text", name := "codeAt", desc := "(I)I" } : Jvm.MethodName)) ∈ bw_L := bw_memT 168 rfl rfl
set_option maxRecDepth 100000 in
theorem l_X4_33 : (Jvm.Cond.methodLink "BufferLoans$Text" (33 : Nat) ({ cls := "BufferLoans$Reader", name := "takes", desc := "(I)Z" } : Jvm.MethodName)) ∈ bw_L := bw_memT 172 rfl rfl
set_option maxRecDepth 100000 in
theorem l_X4_37 : (Jvm.Cond.methodLink "BufferLoans$Text" (37 : Nat) ({ cls := "BufferLoans$Text", name := "firstFault", desc := "()I" } : Jvm.MethodName)) ∈ bw_L := bw_memT 647 rfl rfl
set_option maxRecDepth 100000 in
theorem l_X4_41 : (Jvm.Cond.methodLink "BufferLoans$Text" (41 : Nat) ({ cls := "BufferLoans$Reader", name := "isAtEndOfPlan", desc := "()Z" } : Jvm.MethodName)) ∈ bw_L := bw_memT 648 rfl rfl
set_option maxRecDepth 100000 in
theorem l_X5_134 : (Jvm.Cond.methodLink "BufferLoans" (134 : Nat) ({ cls := "BufferLoans$Text", name := "length", desc := "()I" } : Jvm.MethodName)) ∈ bw_L := bw_memT 144 rfl rfl
set_option maxRecDepth 100000 in
theorem l_X5_142 : (Jvm.Cond.methodLink "BufferLoans" (142 : Nat) ({ cls := "BufferLoans$Text", name := "wipe", desc := "()V" } : Jvm.MethodName)) ∈ bw_L := bw_memT 148 rfl rfl
set_option maxRecDepth 100000 in
theorem l_X5_145 : (Jvm.Cond.methodLink "BufferLoans" (145 : Nat) ({ cls := "BufferLoans$Text", name := "firstFault", desc := "()I" } : Jvm.MethodName)) ∈ bw_L := bw_memT 156 rfl rfl
set_option maxRecDepth 100000 in
theorem l_X5_175 : (Jvm.Cond.methodLink "BufferLoans" (175 : Nat) ({ cls := "BufferLoans$Desk", name := "taskPart", desc := "(III)I" } : Jvm.MethodName)) ∈ bw_L := bw_memT 284 rfl rfl
set_option maxRecDepth 100000 in
theorem l_X5_191 : (Jvm.Cond.methodLink "BufferLoans" (191 : Nat) ({ cls := "BufferLoans$Desk", name := "lenderAt", desc := "(II)I" } : Jvm.MethodName)) ∈ bw_L := bw_memT 288 rfl rfl
set_option maxRecDepth 100000 in
theorem l_X5_214 : (Jvm.Cond.methodLink "BufferLoans" (214 : Nat) ({ cls := "BufferLoans$Desk", name := "weakestProject", desc := "()I" } : Jvm.MethodName)) ∈ bw_L := bw_memT 199 rfl rfl
set_option maxRecDepth 100000 in
theorem l_X5_220 : (Jvm.Cond.methodLink "BufferLoans" (220 : Nat) ({ cls := "BufferLoans$Desk", name := "delayOfTasks", desc := "()I" } : Jvm.MethodName)) ∈ bw_L := bw_memT 235 rfl rfl
set_option maxRecDepth 100000 in
theorem l_X5_223 : (Jvm.Cond.methodLink "BufferLoans" (223 : Nat) ({ cls := "BufferLoans$Desk", name := "sumOfProjects", desc := "(I)I" } : Jvm.MethodName)) ∈ bw_L := bw_memT 242 rfl rfl
set_option maxRecDepth 100000 in
theorem l_X5_228 : (Jvm.Cond.methodLink "BufferLoans" (228 : Nat) ({ cls := "BufferLoans", name := "mix", desc := "(JJ)J" } : Jvm.MethodName)) ∈ bw_L := bw_memT 267 rfl rfl
set_option maxRecDepth 100000 in
theorem l_X5_251 : (Jvm.Cond.methodLink "BufferLoans" (251 : Nat) ({ cls := "BufferLoans$Text", name := "codeAt", desc := "(I)I" } : Jvm.MethodName)) ∈ bw_L := bw_memT 406 rfl rfl
set_option maxRecDepth 100000 in
theorem l_X5_258 : (Jvm.Cond.methodLink "BufferLoans" (258 : Nat) ({ cls := "BufferLoans$Reader", name := "isDigit", desc := "(I)Z" } : Jvm.MethodName)) ∈ bw_L := bw_memT 661 rfl rfl
set_option maxRecDepth 100000 in
theorem l_X5_44 : (Jvm.Cond.methodLink "BufferLoans" (44 : Nat) ({ cls := "BufferLoans$Desk", name := "projects", desc := "()I" } : Jvm.MethodName)) ∈ bw_L := bw_memT 255 rfl rfl
set_option maxRecDepth 100000 in
theorem l_X5_57 : (Jvm.Cond.methodLink "BufferLoans" (57 : Nat) ({ cls := "BufferLoans$Desk", name := "addProject", desc := "(II)I" } : Jvm.MethodName)) ∈ bw_L := bw_memT 513 rfl rfl
set_option maxRecDepth 100000 in
theorem l_X5_71 : (Jvm.Cond.methodLink "BufferLoans" (71 : Nat) ({ cls := "BufferLoans$Desk", name := "projectPart", desc := "(II)I" } : Jvm.MethodName)) ∈ bw_L := bw_memT 280 rfl rfl
set_option maxRecDepth 100000 in
theorem l_X5_76 : (Jvm.Cond.methodLink "BufferLoans" (76 : Nat) ({ cls := "BufferLoans$Desk", name := "addTask", desc := "(II)I" } : Jvm.MethodName)) ∈ bw_L := bw_memT 548 rfl rfl
set_option maxRecDepth 100000 in
theorem l_X6_102 : (Jvm.Cond.methodLink "BufferLoansModel" (102 : Nat) ({ cls := "BufferLoansModel", name := "borrow", desc := "(II)V" } : Jvm.MethodName)) ∈ bw_L := bw_memT 901 rfl rfl
set_option maxRecDepth 100000 in
theorem l_X6_105 : (Jvm.Cond.methodLink "BufferLoansModel" (105 : Nat) ({ cls := "BufferLoansModel", name := "charge", desc := "(II)V" } : Jvm.MethodName)) ∈ bw_L := bw_memT 879 rfl rfl
set_option maxRecDepth 100000 in
theorem l_X6_108 : (Jvm.Cond.methodLink "BufferLoansModel" (108 : Nat) ({ cls := "BufferLoansModel", name := "payAll", desc := "(II)V" } : Jvm.MethodName)) ∈ bw_L := bw_memT 929 rfl rfl
set_option maxRecDepth 100000 in
theorem l_X6_111 : (Jvm.Cond.methodLink "BufferLoansModel" (111 : Nat) ({ cls := "BufferLoansModel", name := "isRank", desc := "(I)Z" } : Jvm.MethodName)) ∈ bw_L := bw_memT 818 rfl rfl
set_option maxRecDepth 100000 in
theorem l_X6_114 : (Jvm.Cond.methodLink "BufferLoansModel" (114 : Nat) ({ cls := "BufferLoansModel", name := "fails", desc := "(I)I" } : Jvm.MethodName)) ∈ bw_L := bw_memT 824 rfl rfl
set_option maxRecDepth 100000 in
theorem l_X6_117 : (Jvm.Cond.methodLink "BufferLoansModel" (117 : Nat) ({ cls := "BufferLoansModel", name := "save", desc := "()V" } : Jvm.MethodName)) ∈ bw_L := bw_memT 828 rfl rfl
set_option maxRecDepth 100000 in
theorem l_X6_120 : (Jvm.Cond.methodLink "BufferLoansModel" (120 : Nat) ({ cls := "BufferLoansModel", name := "openNow", desc := "(II)V" } : Jvm.MethodName)) ∈ bw_L := bw_memT 832 rfl rfl
set_option maxRecDepth 100000 in
theorem l_X6_123 : (Jvm.Cond.methodLink "BufferLoansModel" (123 : Nat) ({ cls := "BufferLoansModel", name := "isProject", desc := "(I)Z" } : Jvm.MethodName)) ∈ bw_L := bw_memT 843 rfl rfl
set_option maxRecDepth 100000 in
theorem l_X6_126 : (Jvm.Cond.methodLink "BufferLoansModel" (126 : Nat) ({ cls := "BufferLoansModel", name := "planNow", desc := "(II)V" } : Jvm.MethodName)) ∈ bw_L := bw_memT 851 rfl rfl
set_option maxRecDepth 100000 in
theorem l_X6_129 : (Jvm.Cond.methodLink "BufferLoansModel" (129 : Nat) ({ cls := "BufferLoansModel", name := "mayDo", desc := "(I)Z" } : Jvm.MethodName)) ∈ bw_L := bw_memT 867 rfl rfl
set_option maxRecDepth 100000 in
theorem l_X6_132 : (Jvm.Cond.methodLink "BufferLoansModel" (132 : Nat) ({ cls := "BufferLoansModel", name := "doNow", desc := "(II)V" } : Jvm.MethodName)) ∈ bw_L := bw_memT 875 rfl rfl
set_option maxRecDepth 100000 in
theorem l_X6_135 : (Jvm.Cond.methodLink "BufferLoansModel" (135 : Nat) ({ cls := "BufferLoansModel", name := "owedOf", desc := "(II)I" } : Jvm.MethodName)) ∈ bw_L := bw_memT 937 rfl rfl
set_option maxRecDepth 100000 in
theorem l_X6_138 : (Jvm.Cond.methodLink "BufferLoansModel" (138 : Nat) ({ cls := "BufferLoansModel", name := "writeOff", desc := "(I)I" } : Jvm.MethodName)) ∈ bw_L := bw_memT 949 rfl rfl
set_option maxRecDepth 100000 in
theorem l_X6_147 : (Jvm.Cond.methodLink "BufferLoansModel" (147 : Nat) ({ cls := "BufferLoansModel", name := "next", desc := "()I" } : Jvm.MethodName)) ∈ bw_L := bw_memT 977 rfl rfl
set_option maxRecDepth 100000 in
theorem l_X6_151 : (Jvm.Cond.methodLink "BufferLoansModel" (151 : Nat) ({ cls := "BufferLoansModel", name := "number", desc := "(II)I" } : Jvm.MethodName)) ∈ bw_L := bw_memT 973 rfl rfl
set_option maxRecDepth 100000 in
theorem l_X6_154 : (Jvm.Cond.methodLink "BufferLoansModel" (154 : Nat) ({ cls := "BufferLoansModel", name := "takes", desc := "(I)Z" } : Jvm.MethodName)) ∈ bw_L := bw_memT 981 rfl rfl
set_option maxRecDepth 100000 in
theorem l_X6_160 : (Jvm.Cond.methodLink "BufferLoansModel" (160 : Nat) ({ cls := "BufferLoansModel", name := "tasks", desc := "(I)Z" } : Jvm.MethodName)) ∈ bw_L := bw_memT 985 rfl rfl
set_option maxRecDepth 100000 in
theorem l_X6_163 : (Jvm.Cond.methodLink "BufferLoansModel" (163 : Nat) ({ cls := "BufferLoansModel", name := "readProject", desc := "()Z" } : Jvm.MethodName)) ∈ bw_L := bw_memT 969 rfl rfl
set_option maxRecDepth 100000 in
theorem l_X6_167 : (Jvm.Cond.methodLink "BufferLoansModel" (167 : Nat) ({ cls := "BufferLoansModel", name := "isPlan", desc := "()Z" } : Jvm.MethodName)) ∈ bw_L := bw_memT 965 rfl rfl
set_option maxRecDepth 100000 in
theorem l_X6_170 : (Jvm.Cond.methodLink "BufferLoansModel" (170 : Nat) ({ cls := "BufferLoansModel", name := "owedBy", desc := "(I)I" } : Jvm.MethodName)) ∈ bw_L := bw_memT 1005 rfl rfl
set_option maxRecDepth 100000 in
theorem l_X6_173 : (Jvm.Cond.methodLink "BufferLoansModel" (173 : Nat) ({ cls := "BufferLoansModel", name := "planned", desc := "(I)I" } : Jvm.MethodName)) ∈ bw_L := bw_memT 1009 rfl rfl
set_option maxRecDepth 100000 in
theorem l_X6_176 : (Jvm.Cond.methodLink "BufferLoansModel" (176 : Nat) ({ cls := "BufferLoansModel", name := "spent", desc := "(I)I" } : Jvm.MethodName)) ∈ bw_L := bw_memT 1013 rfl rfl
set_option maxRecDepth 100000 in
theorem l_X6_179 : (Jvm.Cond.methodLink "BufferLoansModel" (179 : Nat) ({ cls := "BufferLoansModel", name := "projectOf", desc := "(II)I" } : Jvm.MethodName)) ∈ bw_L := bw_memT 1001 rfl rfl
set_option maxRecDepth 100000 in
theorem l_X6_182 : (Jvm.Cond.methodLink "BufferLoansModel" (182 : Nat) ({ cls := "BufferLoansModel", name := "taskOf", desc := "(III)I" } : Jvm.MethodName)) ∈ bw_L := bw_memT 1021 rfl rfl
set_option maxRecDepth 100000 in
theorem l_X6_186 : (Jvm.Cond.methodLink "BufferLoansModel" (186 : Nat) ({ cls := "BufferLoansModel", name := "lenderOf", desc := "(II)I" } : Jvm.MethodName)) ∈ bw_L := bw_memT 1037 rfl rfl
set_option maxRecDepth 100000 in
theorem l_X6_189 : (Jvm.Cond.methodLink "BufferLoansModel" (189 : Nat) ({ cls := "BufferLoansModel", name := "ofProjects", desc := "(I)I" } : Jvm.MethodName)) ∈ bw_L := bw_memT 1049 rfl rfl
set_option maxRecDepth 100000 in
theorem l_X6_192 : (Jvm.Cond.methodLink "BufferLoansModel" (192 : Nat) ({ cls := "BufferLoansModel", name := "delays", desc := "()I" } : Jvm.MethodName)) ∈ bw_L := bw_memT 1053 rfl rfl
set_option maxRecDepth 100000 in
theorem l_X6_195 : (Jvm.Cond.methodLink "BufferLoansModel" (195 : Nat) ({ cls := "BufferLoansModel", name := "counted", desc := "(I)I" } : Jvm.MethodName)) ∈ bw_L := bw_memT 1045 rfl rfl
set_option maxRecDepth 100000 in
theorem l_X6_198 : (Jvm.Cond.methodLink "BufferLoansModel" (198 : Nat) ({ cls := "BufferLoansModel", name := "putAside", desc := "()V" } : Jvm.MethodName)) ∈ bw_L := bw_memT 1069 rfl rfl
set_option maxRecDepth 100000 in
theorem l_X6_201 : (Jvm.Cond.methodLink "BufferLoansModel" (201 : Nat) ({ cls := "BufferLoansModel", name := "putBack", desc := "()V" } : Jvm.MethodName)) ∈ bw_L := bw_memT 1073 rfl rfl
set_option maxRecDepth 100000 in
theorem l_X6_204 : (Jvm.Cond.methodLink "BufferLoansModel" (204 : Nat) ({ cls := "BufferLoansModel", name := "doneOf", desc := "(III)I" } : Jvm.MethodName)) ∈ bw_L := bw_memT 1065 rfl rfl
set_option maxRecDepth 100000 in
theorem l_X6_208 : (Jvm.Cond.methodLink "BufferLoansModel" (208 : Nat) ({ cls := "BufferLoansModel", name := "bornBy", desc := "(I)I" } : Jvm.MethodName)) ∈ bw_L := bw_memT 1081 rfl rfl
set_option maxRecDepth 100000 in
theorem l_X6_211 : (Jvm.Cond.methodLink "BufferLoansModel" (211 : Nat) ({ cls := "BufferLoansModel", name := "weakestOf", desc := "()I" } : Jvm.MethodName)) ∈ bw_L := bw_memT 1090 rfl rfl
set_option maxRecDepth 100000 in
theorem l_X6_214 : (Jvm.Cond.methodLink "BufferLoansModel" (214 : Nat) ({ cls := "BufferLoansModel", name := "leastLeft", desc := "()I" } : Jvm.MethodName)) ∈ bw_L := bw_memT 1102 rfl rfl
set_option maxRecDepth 100000 in
theorem l_X6_217 : (Jvm.Cond.methodLink "BufferLoansModel" (217 : Nat) ({ cls := "BufferLoansModel", name := "ruleOf", desc := "(II)I" } : Jvm.MethodName)) ∈ bw_L := bw_memT 1098 rfl rfl
set_option maxRecDepth 100000 in
theorem l_X6_220 : (Jvm.Cond.methodLink "BufferLoansModel" (220 : Nat) ({ cls := "BufferLoansModel", name := "shareOf", desc := "()D" } : Jvm.MethodName)) ∈ bw_L := bw_memT 1110 rfl rfl
set_option maxRecDepth 100000 in
theorem l_X6_230 : (Jvm.Cond.methodLink "BufferLoansModel" (230 : Nat) ({ cls := "BufferLoansModel", name := "mix", desc := "(J)V" } : Jvm.MethodName)) ∈ bw_L := bw_memT 1119 rfl rfl
set_option maxRecDepth 100000 in
theorem l_X6_35 : (Jvm.Cond.methodLink "BufferLoansModel" (35 : Nat) ({ cls := "BufferLoansModel", name := "in", desc := "(III)Z" } : Jvm.MethodName)) ∈ bw_L := bw_memT 821 rfl rfl
set_option maxRecDepth 100000 in
theorem l_X6_39 : (Jvm.Cond.methodLink "BufferLoansModel" (39 : Nat) ({ cls := "BufferLoansModel", name := "at", desc := "(I)I" } : Jvm.MethodName)) ∈ bw_L := bw_memT 836 rfl rfl
set_option maxRecDepth 100000 in
theorem l_X6_43 : (Jvm.Cond.methodLink "BufferLoansModel" (43 : Nat) ({ cls := "BufferLoansModel", name := "isOpen", desc := "(I)Z" } : Jvm.MethodName)) ∈ bw_L := bw_memT 847 rfl rfl
set_option maxRecDepth 100000 in
theorem l_X6_47 : (Jvm.Cond.methodLink "BufferLoansModel" (47 : Nat) ({ cls := "BufferLoansModel", name := "hasNext", desc := "(I)Z" } : Jvm.MethodName)) ∈ bw_L := bw_memT 871 rfl rfl
set_option maxRecDepth 100000 in
theorem l_X6_50 : (Jvm.Cond.methodLink "BufferLoansModel" (50 : Nat) ({ cls := "BufferLoansModel", name := "loanAt", desc := "(I)I" } : Jvm.MethodName)) ∈ bw_L := bw_memT 890 rfl rfl
set_option maxRecDepth 100000 in
theorem l_X6_53 : (Jvm.Cond.methodLink "BufferLoansModel" (53 : Nat) ({ cls := "BufferLoansModel", name := "placeOf", desc := "(II)I" } : Jvm.MethodName)) ∈ bw_L := bw_memT 925 rfl rfl
set_option maxRecDepth 100000 in
theorem l_X6_57 : (Jvm.Cond.methodLink "BufferLoansModel" (57 : Nat) ({ cls := "BufferLoansModel", name := "dropLoan", desc := "(I)V" } : Jvm.MethodName)) ∈ bw_L := bw_memT 897 rfl rfl
set_option maxRecDepth 100000 in
theorem l_X6_61 : (Jvm.Cond.methodLink "BufferLoansModel" (61 : Nat) ({ cls := "BufferLoansModel", name := "least", desc := "(II)I" } : Jvm.MethodName)) ∈ bw_L := bw_memT 883 rfl rfl
set_option maxRecDepth 100000 in
theorem l_X6_64 : (Jvm.Cond.methodLink "BufferLoansModel" (64 : Nat) ({ cls := "BufferLoansModel", name := "cutLoan", desc := "(II)V" } : Jvm.MethodName)) ∈ bw_L := bw_memT 893 rfl rfl
set_option maxRecDepth 100000 in
theorem l_X6_68 : (Jvm.Cond.methodLink "BufferLoansModel" (68 : Nat) ({ cls := "BufferLoansModel", name := "canLend", desc := "(I)I" } : Jvm.MethodName)) ∈ bw_L := bw_memT 909 rfl rfl
set_option maxRecDepth 100000 in
theorem l_X6_71 : (Jvm.Cond.methodLink "BufferLoansModel" (71 : Nat) ({ cls := "BufferLoansModel", name := "lentBy", desc := "(I)I" } : Jvm.MethodName)) ∈ bw_L := bw_memT 917 rfl rfl
set_option maxRecDepth 100000 in
theorem l_X6_77 : (Jvm.Cond.methodLink "BufferLoansModel" (77 : Nat) ({ cls := "BufferLoansModel", name := "merit", desc := "(I)I" } : Jvm.MethodName)) ∈ bw_L := bw_memT 913 rfl rfl
set_option maxRecDepth 100000 in
theorem l_X6_83 : (Jvm.Cond.methodLink "BufferLoansModel" (83 : Nat) ({ cls := "BufferLoansModel", name := "layOrder", desc := "(I)V" } : Jvm.MethodName)) ∈ bw_L := bw_memT 905 rfl rfl
set_option maxRecDepth 100000 in
theorem l_X6_86 : (Jvm.Cond.methodLink "BufferLoansModel" (86 : Nat) ({ cls := "BufferLoansModel", name := "addLoan", desc := "(III)V" } : Jvm.MethodName)) ∈ bw_L := bw_memT 921 rfl rfl
set_option maxRecDepth 100000 in
theorem l_X6_99 : (Jvm.Cond.methodLink "BufferLoansModel" (99 : Nat) ({ cls := "BufferLoansModel", name := "callBack", desc := "(II)V" } : Jvm.MethodName)) ∈ bw_L := bw_memT 886 rfl rfl
set_option maxRecDepth 100000 in
theorem Y_X3_put : bw_Y yX3_put cX3_put 5 none 3 := ⟨bw_memT 53 rfl rfl, bw_memT 3 rfl rfl, ⟨by decide +kernel, by decide +kernel⟩, by decide +kernel⟩
set_option maxRecDepth 100000 in
theorem V_X3_put : Cond.instanceMethod yX3_put ∈ bw_L ∧ Cond.selects RX3 yX3_put yX3_put ∈ bw_L := ⟨bw_memT 51 rfl rfl, bw_memT 52 rfl rfl⟩
set_option maxRecDepth 100000 in
theorem Y_X5_isOutside : bw_Y yX5_isOutside cX5_isOutside 3 (some .boolean) 3 := ⟨bw_memT 418 rfl rfl, bw_memT 1 rfl rfl, ⟨by decide +kernel, by decide +kernel⟩, by decide +kernel⟩
set_option maxRecDepth 100000 in
theorem V_X5_isOutside : Cond.static yX5_isOutside ∈ bw_L := bw_memT 417 rfl rfl
set_option maxRecDepth 100000 in
theorem Y_X0_projects : bw_Y yX0_projects cX0_projects 1 (some .int) 0 := ⟨bw_memT 258 rfl rfl, bw_memT 2 rfl rfl, ⟨by decide +kernel, by decide +kernel⟩, by decide +kernel⟩
set_option maxRecDepth 100000 in
theorem V_X0_projects : Cond.instanceMethod yX0_projects ∈ bw_L ∧ Cond.selects RX0 yX0_projects yX0_projects ∈ bw_L := ⟨bw_memT 256 rfl rfl, bw_memT 257 rfl rfl⟩
set_option maxRecDepth 100000 in
theorem Y_X0_addProject : bw_Y yX0_addProject cX0_addProject 4 (some .int) 2 := ⟨bw_memT 516 rfl rfl, bw_memT 2 rfl rfl, ⟨by decide +kernel, by decide +kernel⟩, by decide +kernel⟩
set_option maxRecDepth 100000 in
theorem V_X0_addProject : Cond.instanceMethod yX0_addProject ∈ bw_L ∧ Cond.selects RX0 yX0_addProject yX0_addProject ∈ bw_L := ⟨bw_memT 514 rfl rfl, bw_memT 515 rfl rfl⟩
set_option maxRecDepth 100000 in
theorem Y_X3_get : bw_Y yX3_get cX3_get 4 (some .int) 2 := ⟨bw_memT 214 rfl rfl, bw_memT 3 rfl rfl, ⟨by decide +kernel, by decide +kernel⟩, by decide +kernel⟩
set_option maxRecDepth 100000 in
theorem V_X3_get : Cond.instanceMethod yX3_get ∈ bw_L ∧ Cond.selects RX3 yX3_get yX3_get ∈ bw_L := ⟨bw_memT 212 rfl rfl, bw_memT 213 rfl rfl⟩
set_option maxRecDepth 100000 in
theorem Y_X0_isOpen : bw_Y yX0_isOpen cX0_isOpen 2 (some .boolean) 1 := ⟨bw_memT 210 rfl rfl, bw_memT 2 rfl rfl, ⟨by decide +kernel, by decide +kernel⟩, by decide +kernel⟩
set_option maxRecDepth 100000 in
theorem V_X0_isOpen : Cond.instanceMethod yX0_isOpen ∈ bw_L ∧ Cond.selects RX0 yX0_isOpen yX0_isOpen ∈ bw_L := ⟨bw_memT 208 rfl rfl, bw_memT 209 rfl rfl⟩
set_option maxRecDepth 100000 in
theorem Y_X0_lendableDays : bw_Y yX0_lendableDays cX0_lendableDays 4 (some .int) 2 := ⟨bw_memT 229 rfl rfl, bw_memT 2 rfl rfl, ⟨by decide +kernel, by decide +kernel⟩, by decide +kernel⟩
set_option maxRecDepth 100000 in
theorem V_X0_lendableDays : Cond.instanceMethod yX0_lendableDays ∈ bw_L ∧ Cond.selects RX0 yX0_lendableDays yX0_lendableDays ∈ bw_L := ⟨bw_memT 228 rfl rfl, bw_mem 5 rfl rfl⟩
set_option maxRecDepth 100000 in
theorem Y_X0_projectPart : bw_Y yX0_projectPart cX0_projectPart 3 (some .int) 2 := ⟨bw_memT 283 rfl rfl, bw_memT 2 rfl rfl, ⟨by decide +kernel, by decide +kernel⟩, by decide +kernel⟩
set_option maxRecDepth 100000 in
theorem V_X0_projectPart : Cond.instanceMethod yX0_projectPart ∈ bw_L ∧ Cond.selects RX0 yX0_projectPart yX0_projectPart ∈ bw_L := ⟨bw_memT 281 rfl rfl, bw_memT 282 rfl rfl⟩
set_option maxRecDepth 100000 in
theorem Y_X0_rowOfTask : bw_Y yX0_rowOfTask cX0_rowOfTask 2 (some .int) 2 := ⟨bw_memT 241 rfl rfl, bw_memT 2 rfl rfl, ⟨by decide +kernel, by decide +kernel⟩, by decide +kernel⟩
set_option maxRecDepth 100000 in
theorem V_X0_rowOfTask : Cond.static yX0_rowOfTask ∈ bw_L := bw_memT 240 rfl rfl
set_option maxRecDepth 100000 in
theorem Y_X3_increase : bw_Y yX3_increase cX3_increase 5 none 3 := ⟨bw_memT 336 rfl rfl, bw_memT 3 rfl rfl, ⟨by decide +kernel, by decide +kernel⟩, by decide +kernel⟩
set_option maxRecDepth 100000 in
theorem V_X3_increase : Cond.instanceMethod yX3_increase ∈ bw_L ∧ Cond.selects RX3 yX3_increase yX3_increase ∈ bw_L := ⟨bw_memT 334 rfl rfl, bw_memT 335 rfl rfl⟩
set_option maxRecDepth 100000 in
theorem Y_X0_addTask : bw_Y yX0_addTask cX0_addTask 5 (some .int) 2 := ⟨bw_memT 551 rfl rfl, bw_memT 2 rfl rfl, ⟨by decide +kernel, by decide +kernel⟩, by decide +kernel⟩
set_option maxRecDepth 100000 in
theorem V_X0_addTask : Cond.instanceMethod yX0_addTask ∈ bw_L ∧ Cond.selects RX0 yX0_addTask yX0_addTask ∈ bw_L := ⟨bw_memT 549 rfl rfl, bw_memT 550 rfl rfl⟩
set_option maxRecDepth 100000 in
theorem Y_X0_changeRank : bw_Y yX0_changeRank cX0_changeRank 4 (some .int) 2 := ⟨bw_memT 563 rfl rfl, bw_memT 2 rfl rfl, ⟨by decide +kernel, by decide +kernel⟩, by decide +kernel⟩
set_option maxRecDepth 100000 in
theorem V_X0_changeRank : Cond.instanceMethod yX0_changeRank ∈ bw_L ∧ Cond.selects RX0 yX0_changeRank yX0_changeRank ∈ bw_L := ⟨bw_memT 561 rfl rfl, bw_memT 562 rfl rfl⟩
set_option maxRecDepth 100000 in
theorem Y_X0_changeSetting : bw_Y yX0_changeSetting cX0_changeSetting 4 (some .int) 2 := ⟨bw_memT 389 rfl rfl, bw_memT 2 rfl rfl, ⟨by decide +kernel, by decide +kernel⟩, by decide +kernel⟩
set_option maxRecDepth 100000 in
theorem V_X0_changeSetting : Cond.instanceMethod yX0_changeSetting ∈ bw_L ∧ Cond.selects RX0 yX0_changeSetting yX0_changeSetting ∈ bw_L := ⟨bw_memT 387 rfl rfl, bw_memT 388 rfl rfl⟩
set_option maxRecDepth 100000 in
theorem Y_X0_hasNextTask : bw_Y yX0_hasNextTask cX0_hasNextTask 2 (some .boolean) 1 := ⟨bw_memT 316 rfl rfl, bw_memT 2 rfl rfl, ⟨by decide +kernel, by decide +kernel⟩, by decide +kernel⟩
set_option maxRecDepth 100000 in
theorem V_X0_hasNextTask : Cond.instanceMethod yX0_hasNextTask ∈ bw_L ∧ Cond.selects RX0 yX0_hasNextTask yX0_hasNextTask ∈ bw_L := ⟨bw_memT 314 rfl rfl, bw_memT 315 rfl rfl⟩
set_option maxRecDepth 100000 in
theorem Y_X0_useDays : bw_Y yX0_useDays cX0_useDays 3 none 2 := ⟨bw_memT 340 rfl rfl, bw_memT 2 rfl rfl, ⟨by decide +kernel, by decide +kernel⟩, by decide +kernel⟩
set_option maxRecDepth 100000 in
theorem V_X0_useDays : Cond.instanceMethod yX0_useDays ∈ bw_L ∧ Cond.selects RX0 yX0_useDays yX0_useDays ∈ bw_L := ⟨bw_memT 339 rfl rfl, bw_mem 12 rfl rfl⟩
set_option maxRecDepth 100000 in
theorem Y_X3_removeRow : bw_Y yX3_removeRow cX3_removeRow 3 none 1 := ⟨bw_memT 356 rfl rfl, bw_memT 3 rfl rfl, ⟨by decide +kernel, by decide +kernel⟩, by decide +kernel⟩
set_option maxRecDepth 100000 in
theorem V_X3_removeRow : Cond.instanceMethod yX3_removeRow ∈ bw_L ∧ Cond.selects RX3 yX3_removeRow yX3_removeRow ∈ bw_L := ⟨bw_memT 354 rfl rfl, bw_memT 355 rfl rfl⟩
set_option maxRecDepth 100000 in
theorem Y_X0_changeLoan : bw_Y yX0_changeLoan cX0_changeLoan 3 none 2 := ⟨bw_memT 352 rfl rfl, bw_memT 2 rfl rfl, ⟨by decide +kernel, by decide +kernel⟩, by decide +kernel⟩
set_option maxRecDepth 100000 in
theorem V_X0_changeLoan : Cond.instanceMethod yX0_changeLoan ∈ bw_L ∧ Cond.selects RX0 yX0_changeLoan yX0_changeLoan ∈ bw_L := ⟨bw_memT 351 rfl rfl, bw_mem 14 rfl rfl⟩
set_option maxRecDepth 100000 in
theorem Y_X0_moveDays : bw_Y yX0_moveDays cX0_moveDays 4 none 3 := ⟨bw_memT 360 rfl rfl, bw_memT 2 rfl rfl, ⟨by decide +kernel, by decide +kernel⟩, by decide +kernel⟩
set_option maxRecDepth 100000 in
theorem V_X0_moveDays : Cond.instanceMethod yX0_moveDays ∈ bw_L ∧ Cond.selects RX0 yX0_moveDays yX0_moveDays ∈ bw_L := ⟨bw_memT 359 rfl rfl, bw_mem 15 rfl rfl⟩
set_option maxRecDepth 100000 in
theorem Y_X0_payLoan : bw_Y yX0_payLoan cX0_payLoan 5 none 2 := ⟨bw_memT 348 rfl rfl, bw_memT 2 rfl rfl, ⟨by decide +kernel, by decide +kernel⟩, by decide +kernel⟩
set_option maxRecDepth 100000 in
theorem V_X0_payLoan : Cond.instanceMethod yX0_payLoan ∈ bw_L ∧ Cond.selects RX0 yX0_payLoan yX0_payLoan ∈ bw_L := ⟨bw_memT 346 rfl rfl, bw_memT 347 rfl rfl⟩
set_option maxRecDepth 100000 in
theorem Y_X0_repay : bw_Y yX0_repay cX0_repay 8 none 2 := ⟨bw_memT 344 rfl rfl, bw_memT 2 rfl rfl, ⟨by decide +kernel, by decide +kernel⟩, by decide +kernel⟩
set_option maxRecDepth 100000 in
theorem V_X0_repay : Cond.instanceMethod yX0_repay ∈ bw_L ∧ Cond.selects RX0 yX0_repay yX0_repay ∈ bw_L := ⟨bw_memT 343 rfl rfl, bw_mem 13 rfl rfl⟩
set_option maxRecDepth 100000 in
theorem Y_X0_callBack : bw_Y yX0_callBack cX0_callBack 9 (some .int) 2 := ⟨bw_memT 364 rfl rfl, bw_memT 2 rfl rfl, ⟨by decide +kernel, by decide +kernel⟩, by decide +kernel⟩
set_option maxRecDepth 100000 in
theorem V_X0_callBack : Cond.instanceMethod yX0_callBack ∈ bw_L ∧ Cond.selects RX0 yX0_callBack yX0_callBack ∈ bw_L := ⟨bw_memT 363 rfl rfl, bw_mem 16 rfl rfl⟩
set_option maxRecDepth 100000 in
theorem Y_X0_weightOfLender : bw_Y yX0_weightOfLender cX0_weightOfLender 3 (some .int) 2 := ⟨bw_memT 299 rfl rfl, bw_memT 2 rfl rfl, ⟨by decide +kernel, by decide +kernel⟩, by decide +kernel⟩
set_option maxRecDepth 100000 in
theorem V_X0_weightOfLender : Cond.instanceMethod yX0_weightOfLender ∈ bw_L ∧ Cond.selects RX0 yX0_weightOfLender yX0_weightOfLender ∈ bw_L := ⟨bw_memT 298 rfl rfl, bw_mem 9 rfl rfl⟩
set_option maxRecDepth 100000 in
theorem Y_X3_insertRow : bw_Y yX3_insertRow cX3_insertRow 4 none 1 := ⟨bw_memT 303 rfl rfl, bw_memT 3 rfl rfl, ⟨by decide +kernel, by decide +kernel⟩, by decide +kernel⟩
set_option maxRecDepth 100000 in
theorem V_X3_insertRow : Cond.instanceMethod yX3_insertRow ∈ bw_L ∧ Cond.selects RX3 yX3_insertRow yX3_insertRow ∈ bw_L := ⟨bw_memT 301 rfl rfl, bw_memT 302 rfl rfl⟩
set_option maxRecDepth 100000 in
theorem Y_X0_queueLenders : bw_Y yX0_queueLenders cX0_queueLenders 7 (some .int) 1 := ⟨bw_memT 295 rfl rfl, bw_memT 2 rfl rfl, ⟨by decide +kernel, by decide +kernel⟩, by decide +kernel⟩
set_option maxRecDepth 100000 in
theorem V_X0_queueLenders : Cond.instanceMethod yX0_queueLenders ∈ bw_L ∧ Cond.selects RX0 yX0_queueLenders yX0_queueLenders ∈ bw_L := ⟨bw_memT 294 rfl rfl, bw_mem 8 rfl rfl⟩
set_option maxRecDepth 100000 in
theorem Y_X0_placeOfLoan : bw_Y yX0_placeOfLoan cX0_placeOfLoan 4 (some .int) 2 := ⟨bw_memT 222 rfl rfl, bw_memT 2 rfl rfl, ⟨by decide +kernel, by decide +kernel⟩, by decide +kernel⟩
set_option maxRecDepth 100000 in
theorem V_X0_placeOfLoan : Cond.instanceMethod yX0_placeOfLoan ∈ bw_L ∧ Cond.selects RX0 yX0_placeOfLoan yX0_placeOfLoan ∈ bw_L := ⟨bw_memT 220 rfl rfl, bw_memT 221 rfl rfl⟩
set_option maxRecDepth 100000 in
theorem Y_X0_lendDays : bw_Y yX0_lendDays cX0_lendDays 5 none 3 := ⟨bw_memT 372 rfl rfl, bw_memT 2 rfl rfl, ⟨by decide +kernel, by decide +kernel⟩, by decide +kernel⟩
set_option maxRecDepth 100000 in
theorem V_X0_lendDays : Cond.instanceMethod yX0_lendDays ∈ bw_L ∧ Cond.selects RX0 yX0_lendDays yX0_lendDays ∈ bw_L := ⟨bw_memT 370 rfl rfl, bw_memT 371 rfl rfl⟩
set_option maxRecDepth 100000 in
theorem Y_X0_borrow : bw_Y yX0_borrow cX0_borrow 7 (some .int) 2 := ⟨bw_memT 368 rfl rfl, bw_memT 2 rfl rfl, ⟨by decide +kernel, by decide +kernel⟩, by decide +kernel⟩
set_option maxRecDepth 100000 in
theorem V_X0_borrow : Cond.instanceMethod yX0_borrow ∈ bw_L ∧ Cond.selects RX0 yX0_borrow yX0_borrow ∈ bw_L := ⟨bw_memT 367 rfl rfl, bw_mem 17 rfl rfl⟩
set_option maxRecDepth 100000 in
theorem Y_X0_doNextTask : bw_Y yX0_doNextTask cX0_doNextTask 11 (some .int) 2 := ⟨bw_memT 332 rfl rfl, bw_memT 2 rfl rfl, ⟨by decide +kernel, by decide +kernel⟩, by decide +kernel⟩
set_option maxRecDepth 100000 in
theorem V_X0_doNextTask : Cond.instanceMethod yX0_doNextTask ∈ bw_L ∧ Cond.selects RX0 yX0_doNextTask yX0_doNextTask ∈ bw_L := ⟨bw_memT 330 rfl rfl, bw_memT 331 rfl rfl⟩
set_option maxRecDepth 100000 in
theorem Y_X0_daysOwed : bw_Y yX0_daysOwed cX0_daysOwed 3 (some .int) 2 := ⟨bw_memT 218 rfl rfl, bw_memT 2 rfl rfl, ⟨by decide +kernel, by decide +kernel⟩, by decide +kernel⟩
set_option maxRecDepth 100000 in
theorem V_X0_daysOwed : Cond.instanceMethod yX0_daysOwed ∈ bw_L ∧ Cond.selects RX0 yX0_daysOwed yX0_daysOwed ∈ bw_L := ⟨bw_memT 216 rfl rfl, bw_memT 217 rfl rfl⟩
set_option maxRecDepth 100000 in
theorem Y_X0_writeOff : bw_Y yX0_writeOff cX0_writeOff 3 (some .int) 1 := ⟨bw_memT 622 rfl rfl, bw_memT 2 rfl rfl, ⟨by decide +kernel, by decide +kernel⟩, by decide +kernel⟩
set_option maxRecDepth 100000 in
theorem V_X0_writeOff : Cond.instanceMethod yX0_writeOff ∈ bw_L ∧ Cond.selects RX0 yX0_writeOff yX0_writeOff ∈ bw_L := ⟨bw_memT 621 rfl rfl, bw_mem 23 rfl rfl⟩
set_option maxRecDepth 100000 in
theorem Y_X0_closeProject : bw_Y yX0_closeProject cX0_closeProject 5 (some .int) 1 := ⟨bw_memT 618 rfl rfl, bw_memT 2 rfl rfl, ⟨by decide +kernel, by decide +kernel⟩, by decide +kernel⟩
set_option maxRecDepth 100000 in
theorem V_X0_closeProject : Cond.instanceMethod yX0_closeProject ∈ bw_L ∧ Cond.selects RX0 yX0_closeProject yX0_closeProject ∈ bw_L := ⟨bw_memT 616 rfl rfl, bw_memT 617 rfl rfl⟩
set_option maxRecDepth 100000 in
theorem Y_X4_length : bw_Y yX4_length cX4_length 1 (some .int) 0 := ⟨bw_memT 147 rfl rfl, bw_memT 6 rfl rfl, ⟨by decide +kernel, by decide +kernel⟩, by decide +kernel⟩
set_option maxRecDepth 100000 in
theorem V_X4_length : Cond.instanceMethod yX4_length ∈ bw_L ∧ Cond.selects RX4 yX4_length yX4_length ∈ bw_L := ⟨bw_memT 145 rfl rfl, bw_memT 146 rfl rfl⟩
set_option maxRecDepth 100000 in
theorem Y_X4_add : bw_Y yX4_add cX4_add 2 none 1 := ⟨bw_memT 635 rfl rfl, bw_memT 6 rfl rfl, ⟨by decide +kernel, by decide +kernel⟩, by decide +kernel⟩
set_option maxRecDepth 100000 in
theorem V_X4_add : Cond.instanceMethod yX4_add ∈ bw_L ∧ Cond.selects RX4 yX4_add yX4_add ∈ bw_L := ⟨bw_memT 633 rfl rfl, bw_memT 634 rfl rfl⟩
set_option maxRecDepth 100000 in
theorem Y_X4_wipe : bw_Y yX4_wipe cX4_wipe 1 none 0 := ⟨bw_memT 151 rfl rfl, bw_memT 6 rfl rfl, ⟨by decide +kernel, by decide +kernel⟩, by decide +kernel⟩
set_option maxRecDepth 100000 in
theorem V_X4_wipe : Cond.instanceMethod yX4_wipe ∈ bw_L ∧ Cond.selects RX4 yX4_wipe yX4_wipe ∈ bw_L := ⟨bw_memT 149 rfl rfl, bw_memT 150 rfl rfl⟩
set_option maxRecDepth 100000 in
theorem Y_X5_clearBuffer : bw_Y yX5_clearBuffer cX5_clearBuffer 2 (some .int) 0 := ⟨bw_memT 143 rfl rfl, bw_memT 1 rfl rfl, ⟨by decide +kernel, by decide +kernel⟩, by decide +kernel⟩
set_option maxRecDepth 100000 in
theorem V_X5_clearBuffer : Cond.instanceMethod yX5_clearBuffer ∈ bw_L ∧ Cond.selects RX5 yX5_clearBuffer yX5_clearBuffer ∈ bw_L := ⟨bw_memT 141 rfl rfl, bw_memT 142 rfl rfl⟩
set_option maxRecDepth 100000 in
theorem Y_X2_begin : bw_Y yX2_begin cX2_begin 2 none 1 := ⟨bw_memT 167 rfl rfl, bw_memT 7 rfl rfl, ⟨by decide +kernel, by decide +kernel⟩, by decide +kernel⟩
set_option maxRecDepth 100000 in
theorem V_X2_begin : Cond.instanceMethod yX2_begin ∈ bw_L ∧ Cond.selects RX2 yX2_begin yX2_begin ∈ bw_L := ⟨bw_memT 166 rfl rfl, bw_mem 0 rfl rfl⟩
set_option maxRecDepth 100000 in
theorem Y_X2_start : bw_Y yX2_start cX2_start 1 none 0 := ⟨bw_memT 163 rfl rfl, bw_memT 7 rfl rfl, ⟨by decide +kernel, by decide +kernel⟩, by decide +kernel⟩
set_option maxRecDepth 100000 in
theorem V_X2_start : Cond.instanceMethod yX2_start ∈ bw_L ∧ Cond.selects RX2 yX2_start yX2_start ∈ bw_L := ⟨bw_memT 161 rfl rfl, bw_memT 162 rfl rfl⟩
set_option maxRecDepth 100000 in
theorem Y_X4_codeAt : bw_Y yX4_codeAt cX4_codeAt 2 (some .int) 1 := ⟨bw_memT 171 rfl rfl, bw_memT 6 rfl rfl, ⟨by decide +kernel, by decide +kernel⟩, by decide +kernel⟩
set_option maxRecDepth 100000 in
theorem V_X4_codeAt : Cond.instanceMethod yX4_codeAt ∈ bw_L ∧ Cond.selects RX4 yX4_codeAt yX4_codeAt ∈ bw_L := ⟨bw_memT 169 rfl rfl, bw_memT 170 rfl rfl⟩
set_option maxRecDepth 100000 in
theorem Y_X2_isDigit : bw_Y yX2_isDigit cX2_isDigit 1 (some .boolean) 1 := ⟨bw_memT 178 rfl rfl, bw_memT 7 rfl rfl, ⟨by decide +kernel, by decide +kernel⟩, by decide +kernel⟩
set_option maxRecDepth 100000 in
theorem V_X2_isDigit : Cond.static yX2_isDigit ∈ bw_L := bw_memT 177 rfl rfl
set_option maxRecDepth 100000 in
theorem Y_X2_leastNumber : bw_Y yX2_leastNumber cX2_leastNumber 1 (some .int) 0 := ⟨bw_memT 186 rfl rfl, bw_memT 7 rfl rfl, ⟨by decide +kernel, by decide +kernel⟩, by decide +kernel⟩
set_option maxRecDepth 100000 in
theorem V_X2_leastNumber : Cond.instanceMethod yX2_leastNumber ∈ bw_L ∧ Cond.selects RX2 yX2_leastNumber yX2_leastNumber ∈ bw_L := ⟨bw_memT 185 rfl rfl, bw_mem 2 rfl rfl⟩
set_option maxRecDepth 100000 in
theorem Y_X2_greatestNumber : bw_Y yX2_greatestNumber cX2_greatestNumber 1 (some .int) 0 := ⟨bw_memT 190 rfl rfl, bw_memT 7 rfl rfl, ⟨by decide +kernel, by decide +kernel⟩, by decide +kernel⟩
set_option maxRecDepth 100000 in
theorem V_X2_greatestNumber : Cond.instanceMethod yX2_greatestNumber ∈ bw_L ∧ Cond.selects RX2 yX2_greatestNumber yX2_greatestNumber ∈ bw_L := ⟨bw_memT 189 rfl rfl, bw_mem 3 rfl rfl⟩
set_option maxRecDepth 100000 in
theorem Y_X2_takesDigit : bw_Y yX2_takesDigit cX2_takesDigit 3 (some .boolean) 1 := ⟨bw_memT 182 rfl rfl, bw_memT 7 rfl rfl, ⟨by decide +kernel, by decide +kernel⟩, by decide +kernel⟩
set_option maxRecDepth 100000 in
theorem V_X2_takesDigit : Cond.instanceMethod yX2_takesDigit ∈ bw_L ∧ Cond.selects RX2 yX2_takesDigit yX2_takesDigit ∈ bw_L := ⟨bw_memT 181 rfl rfl, bw_mem 1 rfl rfl⟩
set_option maxRecDepth 100000 in
theorem Y_X2_takesSign : bw_Y yX2_takesSign cX2_takesSign 2 (some .boolean) 1 := ⟨bw_memT 194 rfl rfl, bw_memT 7 rfl rfl, ⟨by decide +kernel, by decide +kernel⟩, by decide +kernel⟩
set_option maxRecDepth 100000 in
theorem V_X2_takesSign : Cond.instanceMethod yX2_takesSign ∈ bw_L ∧ Cond.selects RX2 yX2_takesSign yX2_takesSign ∈ bw_L := ⟨bw_memT 193 rfl rfl, bw_mem 4 rfl rfl⟩
set_option maxRecDepth 100000 in
theorem Y_X2_takes : bw_Y yX2_takes cX2_takes 2 (some .boolean) 1 := ⟨bw_memT 175 rfl rfl, bw_memT 7 rfl rfl, ⟨by decide +kernel, by decide +kernel⟩, by decide +kernel⟩
set_option maxRecDepth 100000 in
theorem V_X2_takes : Cond.instanceMethod yX2_takes ∈ bw_L ∧ Cond.selects RX2 yX2_takes yX2_takes ∈ bw_L := ⟨bw_memT 173 rfl rfl, bw_memT 174 rfl rfl⟩
set_option maxRecDepth 100000 in
theorem Y_X4_firstFault : bw_Y yX4_firstFault cX4_firstFault 2 (some .int) 0 := ⟨bw_memT 159 rfl rfl, bw_memT 6 rfl rfl, ⟨by decide +kernel, by decide +kernel⟩, by decide +kernel⟩
set_option maxRecDepth 100000 in
theorem V_X4_firstFault : Cond.instanceMethod yX4_firstFault ∈ bw_L ∧ Cond.selects RX4 yX4_firstFault yX4_firstFault ∈ bw_L := ⟨bw_memT 157 rfl rfl, bw_memT 158 rfl rfl⟩
set_option maxRecDepth 100000 in
theorem Y_X5_firstError : bw_Y yX5_firstError cX5_firstError 1 (some .int) 0 := ⟨bw_memT 155 rfl rfl, bw_memT 1 rfl rfl, ⟨by decide +kernel, by decide +kernel⟩, by decide +kernel⟩
set_option maxRecDepth 100000 in
theorem V_X5_firstError : Cond.instanceMethod yX5_firstError ∈ bw_L ∧ Cond.selects RX5 yX5_firstError yX5_firstError ∈ bw_L := ⟨bw_memT 153 rfl rfl, bw_memT 154 rfl rfl⟩
set_option maxRecDepth 100000 in
theorem Y_X2_isAtEndOfPlan : bw_Y yX2_isAtEndOfPlan cX2_isAtEndOfPlan 1 (some .boolean) 0 := ⟨bw_memT 651 rfl rfl, bw_memT 7 rfl rfl, ⟨by decide +kernel, by decide +kernel⟩, by decide +kernel⟩
set_option maxRecDepth 100000 in
theorem V_X2_isAtEndOfPlan : Cond.instanceMethod yX2_isAtEndOfPlan ∈ bw_L ∧ Cond.selects RX2 yX2_isAtEndOfPlan yX2_isAtEndOfPlan ∈ bw_L := ⟨bw_memT 649 rfl rfl, bw_memT 650 rfl rfl⟩
set_option maxRecDepth 100000 in
theorem Y_X4_isWholePlan : bw_Y yX4_isWholePlan cX4_isWholePlan 1 (some .boolean) 0 := ⟨bw_memT 646 rfl rfl, bw_memT 6 rfl rfl, ⟨by decide +kernel, by decide +kernel⟩, by decide +kernel⟩
set_option maxRecDepth 100000 in
theorem V_X4_isWholePlan : Cond.instanceMethod yX4_isWholePlan ∈ bw_L ∧ Cond.selects RX4 yX4_isWholePlan yX4_isWholePlan ∈ bw_L := ⟨bw_memT 644 rfl rfl, bw_memT 645 rfl rfl⟩
set_option maxRecDepth 100000 in
theorem Y_X4_projectsInPlan : bw_Y yX4_projectsInPlan cX4_projectsInPlan 3 (some .int) 0 := ⟨bw_memT 656 rfl rfl, bw_memT 6 rfl rfl, ⟨by decide +kernel, by decide +kernel⟩, by decide +kernel⟩
set_option maxRecDepth 100000 in
theorem V_X4_projectsInPlan : Cond.instanceMethod yX4_projectsInPlan ∈ bw_L ∧ Cond.selects RX4 yX4_projectsInPlan yX4_projectsInPlan ∈ bw_L := ⟨bw_memT 654 rfl rfl, bw_memT 655 rfl rfl⟩
set_option maxRecDepth 100000 in
theorem Y_X5_openProjectsOfText : bw_Y yX5_openProjectsOfText cX5_openProjectsOfText 5 none 0 := ⟨bw_memT 660 rfl rfl, bw_memT 1 rfl rfl, ⟨by decide +kernel, by decide +kernel⟩, by decide +kernel⟩
set_option maxRecDepth 100000 in
theorem V_X5_openProjectsOfText : Cond.instanceMethod yX5_openProjectsOfText ∈ bw_L ∧ Cond.selects RX5 yX5_openProjectsOfText yX5_openProjectsOfText ∈ bw_L := ⟨bw_memT 659 rfl rfl, bw_mem 24 rfl rfl⟩
set_option maxRecDepth 100000 in
theorem Y_X0_taskPart : bw_Y yX0_taskPart cX0_taskPart 4 (some .int) 3 := ⟨bw_memT 287 rfl rfl, bw_memT 2 rfl rfl, ⟨by decide +kernel, by decide +kernel⟩, by decide +kernel⟩
set_option maxRecDepth 100000 in
theorem V_X0_taskPart : Cond.instanceMethod yX0_taskPart ∈ bw_L ∧ Cond.selects RX0 yX0_taskPart yX0_taskPart ∈ bw_L := ⟨bw_memT 285 rfl rfl, bw_memT 286 rfl rfl⟩
set_option maxRecDepth 100000 in
theorem Y_X0_loans : bw_Y yX0_loans cX0_loans 1 (some .int) 0 := ⟨bw_memT 262 rfl rfl, bw_memT 2 rfl rfl, ⟨by decide +kernel, by decide +kernel⟩, by decide +kernel⟩
set_option maxRecDepth 100000 in
theorem V_X0_loans : Cond.instanceMethod yX0_loans ∈ bw_L ∧ Cond.selects RX0 yX0_loans yX0_loans ∈ bw_L := ⟨bw_memT 260 rfl rfl, bw_memT 261 rfl rfl⟩
set_option maxRecDepth 100000 in
theorem Y_X0_loanPart : bw_Y yX0_loanPart cX0_loanPart 3 (some .int) 2 := ⟨bw_memT 398 rfl rfl, bw_memT 2 rfl rfl, ⟨by decide +kernel, by decide +kernel⟩, by decide +kernel⟩
set_option maxRecDepth 100000 in
theorem V_X0_loanPart : Cond.instanceMethod yX0_loanPart ∈ bw_L ∧ Cond.selects RX0 yX0_loanPart yX0_loanPart ∈ bw_L := ⟨bw_memT 396 rfl rfl, bw_memT 397 rfl rfl⟩
set_option maxRecDepth 100000 in
theorem Y_X0_lenderAt : bw_Y yX0_lenderAt cX0_lenderAt 3 (some .int) 2 := ⟨bw_memT 291 rfl rfl, bw_memT 2 rfl rfl, ⟨by decide +kernel, by decide +kernel⟩, by decide +kernel⟩
set_option maxRecDepth 100000 in
theorem V_X0_lenderAt : Cond.instanceMethod yX0_lenderAt ∈ bw_L ∧ Cond.selects RX0 yX0_lenderAt yX0_lenderAt ∈ bw_L := ⟨bw_memT 289 rfl rfl, bw_memT 290 rfl rfl⟩
set_option maxRecDepth 100000 in
theorem Y_X0_sumOfProjects : bw_Y yX0_sumOfProjects cX0_sumOfProjects 4 (some .int) 1 := ⟨bw_memT 245 rfl rfl, bw_memT 2 rfl rfl, ⟨by decide +kernel, by decide +kernel⟩, by decide +kernel⟩
set_option maxRecDepth 100000 in
theorem V_X0_sumOfProjects : Cond.instanceMethod yX0_sumOfProjects ∈ bw_L ∧ Cond.selects RX0 yX0_sumOfProjects yX0_sumOfProjects ∈ bw_L := ⟨bw_memT 243 rfl rfl, bw_memT 244 rfl rfl⟩
set_option maxRecDepth 100000 in
theorem Y_X0_delayOfTasks : bw_Y yX0_delayOfTasks cX0_delayOfTasks 5 (some .int) 0 := ⟨bw_memT 238 rfl rfl, bw_memT 2 rfl rfl, ⟨by decide +kernel, by decide +kernel⟩, by decide +kernel⟩
set_option maxRecDepth 100000 in
theorem V_X0_delayOfTasks : Cond.instanceMethod yX0_delayOfTasks ∈ bw_L ∧ Cond.selects RX0 yX0_delayOfTasks yX0_delayOfTasks ∈ bw_L := ⟨bw_memT 236 rfl rfl, bw_memT 237 rfl rfl⟩
set_option maxRecDepth 100000 in
theorem Y_X0_valueOf : bw_Y yX0_valueOf cX0_valueOf 2 (some .int) 1 := ⟨bw_memT 275 rfl rfl, bw_memT 2 rfl rfl, ⟨by decide +kernel, by decide +kernel⟩, by decide +kernel⟩
set_option maxRecDepth 100000 in
theorem V_X0_valueOf : Cond.instanceMethod yX0_valueOf ∈ bw_L ∧ Cond.selects RX0 yX0_valueOf yX0_valueOf ∈ bw_L := ⟨bw_memT 273 rfl rfl, bw_memT 274 rfl rfl⟩
set_option maxRecDepth 100000 in
theorem Y_X5_resultOfTrial : bw_Y yX5_resultOfTrial cX5_resultOfTrial 4 (some .int) 2 := ⟨bw_memT 377 rfl rfl, bw_memT 1 rfl rfl, ⟨by decide +kernel, by decide +kernel⟩, by decide +kernel⟩
set_option maxRecDepth 100000 in
theorem V_X5_resultOfTrial : Cond.instanceMethod yX5_resultOfTrial ∈ bw_L ∧ Cond.selects RX5 yX5_resultOfTrial yX5_resultOfTrial ∈ bw_L := ⟨bw_memT 376 rfl rfl, bw_mem 18 rfl rfl⟩
set_option maxRecDepth 100000 in
theorem Y_X0_bearableDelay : bw_Y yX0_bearableDelay cX0_bearableDelay 5 (some .int) 1 := ⟨bw_memT 206 rfl rfl, bw_memT 2 rfl rfl, ⟨by decide +kernel, by decide +kernel⟩, by decide +kernel⟩
set_option maxRecDepth 100000 in
theorem V_X0_bearableDelay : Cond.instanceMethod yX0_bearableDelay ∈ bw_L ∧ Cond.selects RX0 yX0_bearableDelay yX0_bearableDelay ∈ bw_L := ⟨bw_memT 204 rfl rfl, bw_memT 205 rfl rfl⟩
set_option maxRecDepth 100000 in
theorem Y_X0_weakestProject : bw_Y yX0_weakestProject cX0_weakestProject 5 (some .int) 0 := ⟨bw_memT 202 rfl rfl, bw_memT 2 rfl rfl, ⟨by decide +kernel, by decide +kernel⟩, by decide +kernel⟩
set_option maxRecDepth 100000 in
theorem V_X0_weakestProject : Cond.instanceMethod yX0_weakestProject ∈ bw_L ∧ Cond.selects RX0 yX0_weakestProject yX0_weakestProject ∈ bw_L := ⟨bw_memT 200 rfl rfl, bw_memT 201 rfl rfl⟩
set_option maxRecDepth 100000 in
theorem Y_X5_weakest : bw_Y yX5_weakest cX5_weakest 1 (some .int) 0 := ⟨bw_memT 198 rfl rfl, bw_memT 1 rfl rfl, ⟨by decide +kernel, by decide +kernel⟩, by decide +kernel⟩
set_option maxRecDepth 100000 in
theorem V_X5_weakest : Cond.instanceMethod yX5_weakest ∈ bw_L ∧ Cond.selects RX5 yX5_weakest yX5_weakest ∈ bw_L := ⟨bw_memT 196 rfl rfl, bw_memT 197 rfl rfl⟩
set_option maxRecDepth 100000 in
theorem Y_X0_leastDaysLeft : bw_Y yX0_leastDaysLeft cX0_leastDaysLeft 4 (some .int) 0 := ⟨bw_memT 393 rfl rfl, bw_memT 2 rfl rfl, ⟨by decide +kernel, by decide +kernel⟩, by decide +kernel⟩
set_option maxRecDepth 100000 in
theorem V_X0_leastDaysLeft : Cond.instanceMethod yX0_leastDaysLeft ∈ bw_L ∧ Cond.selects RX0 yX0_leastDaysLeft yX0_leastDaysLeft ∈ bw_L := ⟨bw_memT 391 rfl rfl, bw_memT 392 rfl rfl⟩
set_option maxRecDepth 100000 in
theorem Y_X5_lateShare : bw_Y yX5_lateShare cX5_lateShare 2 (some .double) 0 := ⟨bw_memT 234 rfl rfl, bw_memT 1 rfl rfl, ⟨by decide +kernel, by decide +kernel⟩, by decide +kernel⟩
set_option maxRecDepth 100000 in
theorem V_X5_lateShare : Cond.instanceMethod yX5_lateShare ∈ bw_L ∧ Cond.selects RX5 yX5_lateShare yX5_lateShare ∈ bw_L := ⟨bw_memT 232 rfl rfl, bw_memT 233 rfl rfl⟩
set_option maxRecDepth 100000 in
theorem Y_X5_mix : bw_Y yX5_mix cX5_mix 4 (some .long) 2 := ⟨bw_memT 269 rfl rfl, bw_memT 1 rfl rfl, ⟨by decide +kernel, by decide +kernel⟩, by decide +kernel⟩
set_option maxRecDepth 100000 in
theorem V_X5_mix : Cond.static yX5_mix ∈ bw_L := bw_memT 268 rfl rfl
set_option maxRecDepth 100000 in
theorem Y_X5_mixWhatIs : bw_Y yX5_mixWhatIs cX5_mixWhatIs 8 (some .long) 2 := ⟨bw_memT 279 rfl rfl, bw_memT 1 rfl rfl, ⟨by decide +kernel, by decide +kernel⟩, by decide +kernel⟩
set_option maxRecDepth 100000 in
theorem V_X5_mixWhatIs : Cond.instanceMethod yX5_mixWhatIs ∈ bw_L ∧ Cond.selects RX5 yX5_mixWhatIs yX5_mixWhatIs ∈ bw_L := ⟨bw_memT 278 rfl rfl, bw_mem 7 rfl rfl⟩
set_option maxRecDepth 100000 in
theorem Y_X5_bitsOfShare : bw_Y yX5_bitsOfShare cX5_bitsOfShare 8 (some .long) 1 := ⟨bw_memT 402 rfl rfl, bw_memT 1 rfl rfl, ⟨by decide +kernel, by decide +kernel⟩, by decide +kernel⟩
set_option maxRecDepth 100000 in
theorem V_X5_bitsOfShare : Cond.static yX5_bitsOfShare ∈ bw_L := bw_memT 401 rfl rfl
set_option maxRecDepth 100000 in
theorem Y_X6_thrown : bw_Y yX6_thrown cX6_thrown 1 (some .int) 0 := ⟨bw_memT 813 rfl rfl, bw_memT 8 rfl rfl, ⟨by decide +kernel, by decide +kernel⟩, by decide +kernel⟩
set_option maxRecDepth 100000 in
theorem V_X6_thrown : Cond.instanceMethod yX6_thrown ∈ bw_L ∧ Cond.selects RX6 yX6_thrown yX6_thrown ∈ bw_L := ⟨bw_memT 811 rfl rfl, bw_memT 812 rfl rfl⟩
set_option maxRecDepth 100000 in
theorem Y_X6_fails : bw_Y yX6_fails cX6_fails 2 (some .int) 1 := ⟨bw_memT 827 rfl rfl, bw_memT 8 rfl rfl, ⟨by decide +kernel, by decide +kernel⟩, by decide +kernel⟩
set_option maxRecDepth 100000 in
theorem V_X6_fails : Cond.instanceMethod yX6_fails ∈ bw_L ∧ Cond.selects RX6 yX6_fails yX6_fails ∈ bw_L := ⟨bw_memT 826 rfl rfl, bw_mem 25 rfl rfl⟩
set_option maxRecDepth 100000 in
theorem Y_X6_in : bw_Y yX6_in cX6_in 3 (some .boolean) 3 := ⟨bw_memT 823 rfl rfl, bw_memT 8 rfl rfl, ⟨by decide +kernel, by decide +kernel⟩, by decide +kernel⟩
set_option maxRecDepth 100000 in
theorem V_X6_in : Cond.static yX6_in ∈ bw_L := bw_memT 822 rfl rfl
set_option maxRecDepth 100000 in
theorem Y_X6_least : bw_Y yX6_least cX6_least 2 (some .int) 2 := ⟨bw_memT 885 rfl rfl, bw_memT 8 rfl rfl, ⟨by decide +kernel, by decide +kernel⟩, by decide +kernel⟩
set_option maxRecDepth 100000 in
theorem V_X6_least : Cond.static yX6_least ∈ bw_L := bw_memT 884 rfl rfl
set_option maxRecDepth 100000 in
theorem Y_X6_save : bw_Y yX6_save cX6_save 2 none 0 := ⟨bw_memT 831 rfl rfl, bw_memT 8 rfl rfl, ⟨by decide +kernel, by decide +kernel⟩, by decide +kernel⟩
set_option maxRecDepth 100000 in
theorem V_X6_save : Cond.instanceMethod yX6_save ∈ bw_L ∧ Cond.selects RX6 yX6_save yX6_save ∈ bw_L := ⟨bw_memT 830 rfl rfl, bw_mem 26 rfl rfl⟩
set_option maxRecDepth 100000 in
theorem Y_X6_putAside : bw_Y yX6_putAside cX6_putAside 2 none 0 := ⟨bw_memT 1072 rfl rfl, bw_memT 8 rfl rfl, ⟨by decide +kernel, by decide +kernel⟩, by decide +kernel⟩
set_option maxRecDepth 100000 in
theorem V_X6_putAside : Cond.instanceMethod yX6_putAside ∈ bw_L ∧ Cond.selects RX6 yX6_putAside yX6_putAside ∈ bw_L := ⟨bw_memT 1071 rfl rfl, bw_mem 64 rfl rfl⟩
set_option maxRecDepth 100000 in
theorem Y_X6_putBack : bw_Y yX6_putBack cX6_putBack 2 none 0 := ⟨bw_memT 1076 rfl rfl, bw_memT 8 rfl rfl, ⟨by decide +kernel, by decide +kernel⟩, by decide +kernel⟩
set_option maxRecDepth 100000 in
theorem V_X6_putBack : Cond.instanceMethod yX6_putBack ∈ bw_L ∧ Cond.selects RX6 yX6_putBack yX6_putBack ∈ bw_L := ⟨bw_memT 1075 rfl rfl, bw_mem 65 rfl rfl⟩
set_option maxRecDepth 100000 in
theorem Y_X6_at : bw_Y yX6_at cX6_at 1 (some .int) 1 := ⟨bw_memT 838 rfl rfl, bw_memT 8 rfl rfl, ⟨by decide +kernel, by decide +kernel⟩, by decide +kernel⟩
set_option maxRecDepth 100000 in
theorem V_X6_at : Cond.static yX6_at ∈ bw_L := bw_memT 837 rfl rfl
set_option maxRecDepth 100000 in
theorem Y_X6_loanAt : bw_Y yX6_loanAt cX6_loanAt 1 (some .int) 1 := ⟨bw_memT 892 rfl rfl, bw_memT 8 rfl rfl, ⟨by decide +kernel, by decide +kernel⟩, by decide +kernel⟩
set_option maxRecDepth 100000 in
theorem V_X6_loanAt : Cond.static yX6_loanAt ∈ bw_L := bw_memT 891 rfl rfl
set_option maxRecDepth 100000 in
theorem Y_X6_isProject : bw_Y yX6_isProject cX6_isProject 2 (some .boolean) 1 := ⟨bw_memT 846 rfl rfl, bw_memT 8 rfl rfl, ⟨by decide +kernel, by decide +kernel⟩, by decide +kernel⟩
set_option maxRecDepth 100000 in
theorem V_X6_isProject : Cond.instanceMethod yX6_isProject ∈ bw_L ∧ Cond.selects RX6 yX6_isProject yX6_isProject ∈ bw_L := ⟨bw_memT 845 rfl rfl, bw_mem 28 rfl rfl⟩
set_option maxRecDepth 100000 in
theorem Y_X6_isOpen : bw_Y yX6_isOpen cX6_isOpen 2 (some .boolean) 1 := ⟨bw_memT 850 rfl rfl, bw_memT 8 rfl rfl, ⟨by decide +kernel, by decide +kernel⟩, by decide +kernel⟩
set_option maxRecDepth 100000 in
theorem V_X6_isOpen : Cond.instanceMethod yX6_isOpen ∈ bw_L ∧ Cond.selects RX6 yX6_isOpen yX6_isOpen ∈ bw_L := ⟨bw_memT 849 rfl rfl, bw_mem 29 rfl rfl⟩
set_option maxRecDepth 100000 in
theorem Y_X6_hasNext : bw_Y yX6_hasNext cX6_hasNext 2 (some .boolean) 1 := ⟨bw_memT 874 rfl rfl, bw_memT 8 rfl rfl, ⟨by decide +kernel, by decide +kernel⟩, by decide +kernel⟩
set_option maxRecDepth 100000 in
theorem V_X6_hasNext : Cond.instanceMethod yX6_hasNext ∈ bw_L ∧ Cond.selects RX6 yX6_hasNext yX6_hasNext ∈ bw_L := ⟨bw_memT 873 rfl rfl, bw_mem 32 rfl rfl⟩
set_option maxRecDepth 100000 in
theorem Y_X6_mayDo : bw_Y yX6_mayDo cX6_mayDo 2 (some .boolean) 1 := ⟨bw_memT 870 rfl rfl, bw_memT 8 rfl rfl, ⟨by decide +kernel, by decide +kernel⟩, by decide +kernel⟩
set_option maxRecDepth 100000 in
theorem V_X6_mayDo : Cond.instanceMethod yX6_mayDo ∈ bw_L ∧ Cond.selects RX6 yX6_mayDo yX6_mayDo ∈ bw_L := ⟨bw_memT 869 rfl rfl, bw_mem 31 rfl rfl⟩
set_option maxRecDepth 100000 in
theorem Y_X6_placeOf : bw_Y yX6_placeOf cX6_placeOf 4 (some .int) 2 := ⟨bw_memT 928 rfl rfl, bw_memT 8 rfl rfl, ⟨by decide +kernel, by decide +kernel⟩, by decide +kernel⟩
set_option maxRecDepth 100000 in
theorem V_X6_placeOf : Cond.instanceMethod yX6_placeOf ∈ bw_L ∧ Cond.selects RX6 yX6_placeOf yX6_placeOf ∈ bw_L := ⟨bw_memT 927 rfl rfl, bw_mem 44 rfl rfl⟩
set_option maxRecDepth 100000 in
theorem Y_X6_owedOf : bw_Y yX6_owedOf cX6_owedOf 4 (some .int) 2 := ⟨bw_memT 940 rfl rfl, bw_memT 8 rfl rfl, ⟨by decide +kernel, by decide +kernel⟩, by decide +kernel⟩
set_option maxRecDepth 100000 in
theorem V_X6_owedOf : Cond.instanceMethod yX6_owedOf ∈ bw_L ∧ Cond.selects RX6 yX6_owedOf yX6_owedOf ∈ bw_L := ⟨bw_memT 939 rfl rfl, bw_mem 46 rfl rfl⟩
set_option maxRecDepth 100000 in
theorem Y_X6_dropLoan : bw_Y yX6_dropLoan cX6_dropLoan 3 none 1 := ⟨bw_memT 900 rfl rfl, bw_memT 8 rfl rfl, ⟨by decide +kernel, by decide +kernel⟩, by decide +kernel⟩
set_option maxRecDepth 100000 in
theorem V_X6_dropLoan : Cond.instanceMethod yX6_dropLoan ∈ bw_L ∧ Cond.selects RX6 yX6_dropLoan yX6_dropLoan ∈ bw_L := ⟨bw_memT 899 rfl rfl, bw_mem 37 rfl rfl⟩
set_option maxRecDepth 100000 in
theorem Y_X6_addLoan : bw_Y yX6_addLoan cX6_addLoan 5 none 3 := ⟨bw_memT 924 rfl rfl, bw_memT 8 rfl rfl, ⟨by decide +kernel, by decide +kernel⟩, by decide +kernel⟩
set_option maxRecDepth 100000 in
theorem V_X6_addLoan : Cond.instanceMethod yX6_addLoan ∈ bw_L ∧ Cond.selects RX6 yX6_addLoan yX6_addLoan ∈ bw_L := ⟨bw_memT 923 rfl rfl, bw_mem 43 rfl rfl⟩
set_option maxRecDepth 100000 in
theorem Y_X6_cutLoan : bw_Y yX6_cutLoan cX6_cutLoan 3 none 2 := ⟨bw_memT 896 rfl rfl, bw_memT 8 rfl rfl, ⟨by decide +kernel, by decide +kernel⟩, by decide +kernel⟩
set_option maxRecDepth 100000 in
theorem V_X6_cutLoan : Cond.instanceMethod yX6_cutLoan ∈ bw_L ∧ Cond.selects RX6 yX6_cutLoan yX6_cutLoan ∈ bw_L := ⟨bw_memT 895 rfl rfl, bw_mem 36 rfl rfl⟩
set_option maxRecDepth 100000 in
theorem Y_X6_payAll : bw_Y yX6_payAll cX6_payAll 7 none 2 := ⟨bw_memT 932 rfl rfl, bw_memT 8 rfl rfl, ⟨by decide +kernel, by decide +kernel⟩, by decide +kernel⟩
set_option maxRecDepth 100000 in
theorem V_X6_payAll : Cond.instanceMethod yX6_payAll ∈ bw_L ∧ Cond.selects RX6 yX6_payAll yX6_payAll ∈ bw_L := ⟨bw_memT 931 rfl rfl, bw_mem 45 rfl rfl⟩
set_option maxRecDepth 100000 in
theorem Y_X6_lentBy : bw_Y yX6_lentBy cX6_lentBy 4 (some .int) 1 := ⟨bw_memT 920 rfl rfl, bw_memT 8 rfl rfl, ⟨by decide +kernel, by decide +kernel⟩, by decide +kernel⟩
set_option maxRecDepth 100000 in
theorem V_X6_lentBy : Cond.instanceMethod yX6_lentBy ∈ bw_L ∧ Cond.selects RX6 yX6_lentBy yX6_lentBy ∈ bw_L := ⟨bw_memT 919 rfl rfl, bw_mem 42 rfl rfl⟩
set_option maxRecDepth 100000 in
theorem Y_X6_owedBy : bw_Y yX6_owedBy cX6_owedBy 4 (some .int) 1 := ⟨bw_memT 1008 rfl rfl, bw_memT 8 rfl rfl, ⟨by decide +kernel, by decide +kernel⟩, by decide +kernel⟩
set_option maxRecDepth 100000 in
theorem V_X6_owedBy : Cond.instanceMethod yX6_owedBy ∈ bw_L ∧ Cond.selects RX6 yX6_owedBy yX6_owedBy ∈ bw_L := ⟨bw_memT 1007 rfl rfl, bw_mem 55 rfl rfl⟩
set_option maxRecDepth 100000 in
theorem Y_X6_canLend : bw_Y yX6_canLend cX6_canLend 4 (some .int) 1 := ⟨bw_memT 912 rfl rfl, bw_memT 8 rfl rfl, ⟨by decide +kernel, by decide +kernel⟩, by decide +kernel⟩
set_option maxRecDepth 100000 in
theorem V_X6_canLend : Cond.instanceMethod yX6_canLend ∈ bw_L ∧ Cond.selects RX6 yX6_canLend yX6_canLend ∈ bw_L := ⟨bw_memT 911 rfl rfl, bw_mem 40 rfl rfl⟩
set_option maxRecDepth 100000 in
theorem Y_X6_merit : bw_Y yX6_merit cX6_merit 2 (some .int) 1 := ⟨bw_memT 916 rfl rfl, bw_memT 8 rfl rfl, ⟨by decide +kernel, by decide +kernel⟩, by decide +kernel⟩
set_option maxRecDepth 100000 in
theorem V_X6_merit : Cond.instanceMethod yX6_merit ∈ bw_L ∧ Cond.selects RX6 yX6_merit yX6_merit ∈ bw_L := ⟨bw_memT 915 rfl rfl, bw_mem 41 rfl rfl⟩
set_option maxRecDepth 100000 in
theorem Y_X6_layOrder : bw_Y yX6_layOrder cX6_layOrder 7 none 1 := ⟨bw_memT 908 rfl rfl, bw_memT 8 rfl rfl, ⟨by decide +kernel, by decide +kernel⟩, by decide +kernel⟩
set_option maxRecDepth 100000 in
theorem V_X6_layOrder : Cond.instanceMethod yX6_layOrder ∈ bw_L ∧ Cond.selects RX6 yX6_layOrder yX6_layOrder ∈ bw_L := ⟨bw_memT 907 rfl rfl, bw_mem 39 rfl rfl⟩
set_option maxRecDepth 100000 in
theorem Y_X6_callBack : bw_Y yX6_callBack cX6_callBack 8 none 2 := ⟨bw_memT 889 rfl rfl, bw_memT 8 rfl rfl, ⟨by decide +kernel, by decide +kernel⟩, by decide +kernel⟩
set_option maxRecDepth 100000 in
theorem V_X6_callBack : Cond.instanceMethod yX6_callBack ∈ bw_L ∧ Cond.selects RX6 yX6_callBack yX6_callBack ∈ bw_L := ⟨bw_memT 888 rfl rfl, bw_mem 35 rfl rfl⟩
set_option maxRecDepth 100000 in
theorem Y_X6_borrow : bw_Y yX6_borrow cX6_borrow 6 none 2 := ⟨bw_memT 904 rfl rfl, bw_memT 8 rfl rfl, ⟨by decide +kernel, by decide +kernel⟩, by decide +kernel⟩
set_option maxRecDepth 100000 in
theorem V_X6_borrow : Cond.instanceMethod yX6_borrow ∈ bw_L ∧ Cond.selects RX6 yX6_borrow yX6_borrow ∈ bw_L := ⟨bw_memT 903 rfl rfl, bw_mem 38 rfl rfl⟩
set_option maxRecDepth 100000 in
theorem Y_X6_charge : bw_Y yX6_charge cX6_charge 4 none 2 := ⟨bw_memT 882 rfl rfl, bw_memT 8 rfl rfl, ⟨by decide +kernel, by decide +kernel⟩, by decide +kernel⟩
set_option maxRecDepth 100000 in
theorem V_X6_charge : Cond.instanceMethod yX6_charge ∈ bw_L ∧ Cond.selects RX6 yX6_charge yX6_charge ∈ bw_L := ⟨bw_memT 881 rfl rfl, bw_mem 34 rfl rfl⟩
set_option maxRecDepth 100000 in
theorem Y_X6_doNow : bw_Y yX6_doNow cX6_doNow 6 none 2 := ⟨bw_memT 878 rfl rfl, bw_memT 8 rfl rfl, ⟨by decide +kernel, by decide +kernel⟩, by decide +kernel⟩
set_option maxRecDepth 100000 in
theorem V_X6_doNow : Cond.instanceMethod yX6_doNow ∈ bw_L ∧ Cond.selects RX6 yX6_doNow yX6_doNow ∈ bw_L := ⟨bw_memT 877 rfl rfl, bw_mem 33 rfl rfl⟩
set_option maxRecDepth 100000 in
theorem Y_X6_openNow : bw_Y yX6_openNow cX6_openNow 5 none 2 := ⟨bw_memT 835 rfl rfl, bw_memT 8 rfl rfl, ⟨by decide +kernel, by decide +kernel⟩, by decide +kernel⟩
set_option maxRecDepth 100000 in
theorem V_X6_openNow : Cond.instanceMethod yX6_openNow ∈ bw_L ∧ Cond.selects RX6 yX6_openNow yX6_openNow ∈ bw_L := ⟨bw_memT 834 rfl rfl, bw_mem 27 rfl rfl⟩
set_option maxRecDepth 100000 in
theorem Y_X6_isRank : bw_Y yX6_isRank cX6_isRank 1 (some .boolean) 1 := ⟨bw_memT 820 rfl rfl, bw_memT 8 rfl rfl, ⟨by decide +kernel, by decide +kernel⟩, by decide +kernel⟩
set_option maxRecDepth 100000 in
theorem V_X6_isRank : Cond.static yX6_isRank ∈ bw_L := bw_memT 819 rfl rfl
set_option maxRecDepth 100000 in
theorem Y_X6_open : bw_Y yX6_open cX6_open 3 (some .int) 2 := ⟨bw_memT 817 rfl rfl, bw_memT 8 rfl rfl, ⟨by decide +kernel, by decide +kernel⟩, by decide +kernel⟩
set_option maxRecDepth 100000 in
theorem V_X6_open : Cond.instanceMethod yX6_open ∈ bw_L ∧ Cond.selects RX6 yX6_open yX6_open ∈ bw_L := ⟨bw_memT 815 rfl rfl, bw_memT 816 rfl rfl⟩
set_option maxRecDepth 100000 in
theorem Y_X6_planNow : bw_Y yX6_planNow cX6_planNow 4 none 2 := ⟨bw_memT 854 rfl rfl, bw_memT 8 rfl rfl, ⟨by decide +kernel, by decide +kernel⟩, by decide +kernel⟩
set_option maxRecDepth 100000 in
theorem V_X6_planNow : Cond.instanceMethod yX6_planNow ∈ bw_L ∧ Cond.selects RX6 yX6_planNow yX6_planNow ∈ bw_L := ⟨bw_memT 853 rfl rfl, bw_mem 30 rfl rfl⟩
set_option maxRecDepth 100000 in
theorem Y_X6_plan : bw_Y yX6_plan cX6_plan 3 (some .int) 2 := ⟨bw_memT 842 rfl rfl, bw_memT 8 rfl rfl, ⟨by decide +kernel, by decide +kernel⟩, by decide +kernel⟩
set_option maxRecDepth 100000 in
theorem V_X6_plan : Cond.instanceMethod yX6_plan ∈ bw_L ∧ Cond.selects RX6 yX6_plan yX6_plan ∈ bw_L := ⟨bw_memT 840 rfl rfl, bw_memT 841 rfl rfl⟩
set_option maxRecDepth 100000 in
theorem Y_X6_rank : bw_Y yX6_rank cX6_rank 4 (some .int) 2 := ⟨bw_memT 858 rfl rfl, bw_memT 8 rfl rfl, ⟨by decide +kernel, by decide +kernel⟩, by decide +kernel⟩
set_option maxRecDepth 100000 in
theorem V_X6_rank : Cond.instanceMethod yX6_rank ∈ bw_L ∧ Cond.selects RX6 yX6_rank yX6_rank ∈ bw_L := ⟨bw_memT 856 rfl rfl, bw_memT 857 rfl rfl⟩
set_option maxRecDepth 100000 in
theorem Y_X6_set : bw_Y yX6_set cX6_set 4 (some .int) 2 := ⟨bw_memT 862 rfl rfl, bw_memT 8 rfl rfl, ⟨by decide +kernel, by decide +kernel⟩, by decide +kernel⟩
set_option maxRecDepth 100000 in
theorem V_X6_set : Cond.instanceMethod yX6_set ∈ bw_L ∧ Cond.selects RX6 yX6_set yX6_set ∈ bw_L := ⟨bw_memT 860 rfl rfl, bw_memT 861 rfl rfl⟩
set_option maxRecDepth 100000 in
theorem Y_X6_done : bw_Y yX6_done cX6_done 3 (some .int) 2 := ⟨bw_memT 866 rfl rfl, bw_memT 8 rfl rfl, ⟨by decide +kernel, by decide +kernel⟩, by decide +kernel⟩
set_option maxRecDepth 100000 in
theorem V_X6_done : Cond.instanceMethod yX6_done ∈ bw_L ∧ Cond.selects RX6 yX6_done yX6_done ∈ bw_L := ⟨bw_memT 864 rfl rfl, bw_memT 865 rfl rfl⟩
set_option maxRecDepth 100000 in
theorem Y_X6_lend : bw_Y yX6_lend cX6_lend 4 (some .int) 3 := ⟨bw_memT 936 rfl rfl, bw_memT 8 rfl rfl, ⟨by decide +kernel, by decide +kernel⟩, by decide +kernel⟩
set_option maxRecDepth 100000 in
theorem V_X6_lend : Cond.instanceMethod yX6_lend ∈ bw_L ∧ Cond.selects RX6 yX6_lend yX6_lend ∈ bw_L := ⟨bw_memT 934 rfl rfl, bw_memT 935 rfl rfl⟩
set_option maxRecDepth 100000 in
theorem Y_X6_payBack : bw_Y yX6_payBack cX6_payBack 4 (some .int) 3 := ⟨bw_memT 944 rfl rfl, bw_memT 8 rfl rfl, ⟨by decide +kernel, by decide +kernel⟩, by decide +kernel⟩
set_option maxRecDepth 100000 in
theorem V_X6_payBack : Cond.instanceMethod yX6_payBack ∈ bw_L ∧ Cond.selects RX6 yX6_payBack yX6_payBack ∈ bw_L := ⟨bw_memT 942 rfl rfl, bw_memT 943 rfl rfl⟩
set_option maxRecDepth 100000 in
theorem Y_X6_writeOff : bw_Y yX6_writeOff cX6_writeOff 7 (some .int) 1 := ⟨bw_memT 952 rfl rfl, bw_memT 8 rfl rfl, ⟨by decide +kernel, by decide +kernel⟩, by decide +kernel⟩
set_option maxRecDepth 100000 in
theorem V_X6_writeOff : Cond.instanceMethod yX6_writeOff ∈ bw_L ∧ Cond.selects RX6 yX6_writeOff yX6_writeOff ∈ bw_L := ⟨bw_memT 951 rfl rfl, bw_mem 47 rfl rfl⟩
set_option maxRecDepth 100000 in
theorem Y_X6_close : bw_Y yX6_close cX6_close 3 (some .int) 1 := ⟨bw_memT 948 rfl rfl, bw_memT 8 rfl rfl, ⟨by decide +kernel, by decide +kernel⟩, by decide +kernel⟩
set_option maxRecDepth 100000 in
theorem V_X6_close : Cond.instanceMethod yX6_close ∈ bw_L ∧ Cond.selects RX6 yX6_close yX6_close ∈ bw_L := ⟨bw_memT 946 rfl rfl, bw_memT 947 rfl rfl⟩
set_option maxRecDepth 100000 in
theorem Y_X6_append : bw_Y yX6_append cX6_append 2 (some .int) 1 := ⟨bw_memT 956 rfl rfl, bw_memT 8 rfl rfl, ⟨by decide +kernel, by decide +kernel⟩, by decide +kernel⟩
set_option maxRecDepth 100000 in
theorem V_X6_append : Cond.instanceMethod yX6_append ∈ bw_L ∧ Cond.selects RX6 yX6_append yX6_append ∈ bw_L := ⟨bw_memT 954 rfl rfl, bw_memT 955 rfl rfl⟩
set_option maxRecDepth 100000 in
theorem Y_X6_clearBuffer : bw_Y yX6_clearBuffer cX6_clearBuffer 2 (some .int) 0 := ⟨bw_memT 960 rfl rfl, bw_memT 8 rfl rfl, ⟨by decide +kernel, by decide +kernel⟩, by decide +kernel⟩
set_option maxRecDepth 100000 in
theorem V_X6_clearBuffer : Cond.instanceMethod yX6_clearBuffer ∈ bw_L ∧ Cond.selects RX6 yX6_clearBuffer yX6_clearBuffer ∈ bw_L := ⟨bw_memT 958 rfl rfl, bw_memT 959 rfl rfl⟩
set_option maxRecDepth 100000 in
theorem Y_X6_next : bw_Y yX6_next cX6_next 1 (some .int) 0 := ⟨bw_memT 980 rfl rfl, bw_memT 8 rfl rfl, ⟨by decide +kernel, by decide +kernel⟩, by decide +kernel⟩
set_option maxRecDepth 100000 in
theorem V_X6_next : Cond.instanceMethod yX6_next ∈ bw_L ∧ Cond.selects RX6 yX6_next yX6_next ∈ bw_L := ⟨bw_memT 979 rfl rfl, bw_mem 51 rfl rfl⟩
set_option maxRecDepth 100000 in
theorem Y_X6_takes : bw_Y yX6_takes cX6_takes 3 (some .boolean) 1 := ⟨bw_memT 984 rfl rfl, bw_memT 8 rfl rfl, ⟨by decide +kernel, by decide +kernel⟩, by decide +kernel⟩
set_option maxRecDepth 100000 in
theorem V_X6_takes : Cond.instanceMethod yX6_takes ∈ bw_L ∧ Cond.selects RX6 yX6_takes yX6_takes ∈ bw_L := ⟨bw_memT 983 rfl rfl, bw_mem 52 rfl rfl⟩
set_option maxRecDepth 100000 in
theorem Y_X6_number : bw_Y yX6_number cX6_number 7 (some .int) 2 := ⟨bw_memT 976 rfl rfl, bw_memT 8 rfl rfl, ⟨by decide +kernel, by decide +kernel⟩, by decide +kernel⟩
set_option maxRecDepth 100000 in
theorem V_X6_number : Cond.instanceMethod yX6_number ∈ bw_L ∧ Cond.selects RX6 yX6_number yX6_number ∈ bw_L := ⟨bw_memT 975 rfl rfl, bw_mem 50 rfl rfl⟩
set_option maxRecDepth 100000 in
theorem Y_X6_tasks : bw_Y yX6_tasks cX6_tasks 5 (some .boolean) 1 := ⟨bw_memT 988 rfl rfl, bw_memT 8 rfl rfl, ⟨by decide +kernel, by decide +kernel⟩, by decide +kernel⟩
set_option maxRecDepth 100000 in
theorem V_X6_tasks : Cond.instanceMethod yX6_tasks ∈ bw_L ∧ Cond.selects RX6 yX6_tasks yX6_tasks ∈ bw_L := ⟨bw_memT 987 rfl rfl, bw_mem 53 rfl rfl⟩
set_option maxRecDepth 100000 in
theorem Y_X6_readProject : bw_Y yX6_readProject cX6_readProject 2 (some .boolean) 0 := ⟨bw_memT 972 rfl rfl, bw_memT 8 rfl rfl, ⟨by decide +kernel, by decide +kernel⟩, by decide +kernel⟩
set_option maxRecDepth 100000 in
theorem V_X6_readProject : Cond.instanceMethod yX6_readProject ∈ bw_L ∧ Cond.selects RX6 yX6_readProject yX6_readProject ∈ bw_L := ⟨bw_memT 971 rfl rfl, bw_mem 49 rfl rfl⟩
set_option maxRecDepth 100000 in
theorem Y_X6_isPlan : bw_Y yX6_isPlan cX6_isPlan 2 (some .boolean) 0 := ⟨bw_memT 968 rfl rfl, bw_memT 8 rfl rfl, ⟨by decide +kernel, by decide +kernel⟩, by decide +kernel⟩
set_option maxRecDepth 100000 in
theorem V_X6_isPlan : Cond.instanceMethod yX6_isPlan ∈ bw_L ∧ Cond.selects RX6 yX6_isPlan yX6_isPlan ∈ bw_L := ⟨bw_memT 967 rfl rfl, bw_mem 48 rfl rfl⟩
set_option maxRecDepth 100000 in
theorem Y_X6_firstError : bw_Y yX6_firstError cX6_firstError 1 (some .int) 0 := ⟨bw_memT 964 rfl rfl, bw_memT 8 rfl rfl, ⟨by decide +kernel, by decide +kernel⟩, by decide +kernel⟩
set_option maxRecDepth 100000 in
theorem V_X6_firstError : Cond.instanceMethod yX6_firstError ∈ bw_L ∧ Cond.selects RX6 yX6_firstError yX6_firstError ∈ bw_L := ⟨bw_memT 962 rfl rfl, bw_memT 963 rfl rfl⟩
set_option maxRecDepth 100000 in
theorem Y_X6_openAll : bw_Y yX6_openAll cX6_openAll 4 (some .int) 0 := ⟨bw_memT 992 rfl rfl, bw_memT 8 rfl rfl, ⟨by decide +kernel, by decide +kernel⟩, by decide +kernel⟩
set_option maxRecDepth 100000 in
theorem V_X6_openAll : Cond.instanceMethod yX6_openAll ∈ bw_L ∧ Cond.selects RX6 yX6_openAll yX6_openAll ∈ bw_L := ⟨bw_memT 990 rfl rfl, bw_memT 991 rfl rfl⟩
set_option maxRecDepth 100000 in
theorem Y_X6_undo : bw_Y yX6_undo cX6_undo 2 (some .int) 0 := ⟨bw_memT 996 rfl rfl, bw_memT 8 rfl rfl, ⟨by decide +kernel, by decide +kernel⟩, by decide +kernel⟩
set_option maxRecDepth 100000 in
theorem V_X6_undo : Cond.instanceMethod yX6_undo ∈ bw_L ∧ Cond.selects RX6 yX6_undo yX6_undo ∈ bw_L := ⟨bw_memT 994 rfl rfl, bw_memT 995 rfl rfl⟩
set_option maxRecDepth 100000 in
theorem Y_X6_planned : bw_Y yX6_planned cX6_planned 4 (some .int) 1 := ⟨bw_memT 1012 rfl rfl, bw_memT 8 rfl rfl, ⟨by decide +kernel, by decide +kernel⟩, by decide +kernel⟩
set_option maxRecDepth 100000 in
theorem V_X6_planned : Cond.instanceMethod yX6_planned ∈ bw_L ∧ Cond.selects RX6 yX6_planned yX6_planned ∈ bw_L := ⟨bw_memT 1011 rfl rfl, bw_mem 56 rfl rfl⟩
set_option maxRecDepth 100000 in
theorem Y_X6_spent : bw_Y yX6_spent cX6_spent 4 (some .int) 1 := ⟨bw_memT 1016 rfl rfl, bw_memT 8 rfl rfl, ⟨by decide +kernel, by decide +kernel⟩, by decide +kernel⟩
set_option maxRecDepth 100000 in
theorem V_X6_spent : Cond.instanceMethod yX6_spent ∈ bw_L ∧ Cond.selects RX6 yX6_spent yX6_spent ∈ bw_L := ⟨bw_memT 1015 rfl rfl, bw_mem 57 rfl rfl⟩
set_option maxRecDepth 100000 in
theorem Y_X6_projectOf : bw_Y yX6_projectOf cX6_projectOf 4 (some .int) 2 := ⟨bw_memT 1004 rfl rfl, bw_memT 8 rfl rfl, ⟨by decide +kernel, by decide +kernel⟩, by decide +kernel⟩
set_option maxRecDepth 100000 in
theorem V_X6_projectOf : Cond.instanceMethod yX6_projectOf ∈ bw_L ∧ Cond.selects RX6 yX6_projectOf yX6_projectOf ∈ bw_L := ⟨bw_memT 1003 rfl rfl, bw_mem 54 rfl rfl⟩
set_option maxRecDepth 100000 in
theorem Y_X6_project : bw_Y yX6_project cX6_project 3 (some .int) 2 := ⟨bw_memT 1000 rfl rfl, bw_memT 8 rfl rfl, ⟨by decide +kernel, by decide +kernel⟩, by decide +kernel⟩
set_option maxRecDepth 100000 in
theorem V_X6_project : Cond.instanceMethod yX6_project ∈ bw_L ∧ Cond.selects RX6 yX6_project yX6_project ∈ bw_L := ⟨bw_memT 998 rfl rfl, bw_memT 999 rfl rfl⟩
set_option maxRecDepth 100000 in
theorem Y_X6_taskOf : bw_Y yX6_taskOf cX6_taskOf 5 (some .int) 3 := ⟨bw_memT 1024 rfl rfl, bw_memT 8 rfl rfl, ⟨by decide +kernel, by decide +kernel⟩, by decide +kernel⟩
set_option maxRecDepth 100000 in
theorem V_X6_taskOf : Cond.instanceMethod yX6_taskOf ∈ bw_L ∧ Cond.selects RX6 yX6_taskOf yX6_taskOf ∈ bw_L := ⟨bw_memT 1023 rfl rfl, bw_mem 58 rfl rfl⟩
set_option maxRecDepth 100000 in
theorem Y_X6_task : bw_Y yX6_task cX6_task 4 (some .int) 3 := ⟨bw_memT 1020 rfl rfl, bw_memT 8 rfl rfl, ⟨by decide +kernel, by decide +kernel⟩, by decide +kernel⟩
set_option maxRecDepth 100000 in
theorem V_X6_task : Cond.instanceMethod yX6_task ∈ bw_L ∧ Cond.selects RX6 yX6_task yX6_task ∈ bw_L := ⟨bw_memT 1018 rfl rfl, bw_memT 1019 rfl rfl⟩
set_option maxRecDepth 100000 in
theorem Y_X6_loan : bw_Y yX6_loan cX6_loan 3 (some .int) 2 := ⟨bw_memT 1028 rfl rfl, bw_memT 8 rfl rfl, ⟨by decide +kernel, by decide +kernel⟩, by decide +kernel⟩
set_option maxRecDepth 100000 in
theorem V_X6_loan : Cond.instanceMethod yX6_loan ∈ bw_L ∧ Cond.selects RX6 yX6_loan yX6_loan ∈ bw_L := ⟨bw_memT 1026 rfl rfl, bw_memT 1027 rfl rfl⟩
set_option maxRecDepth 100000 in
theorem Y_X6_owed : bw_Y yX6_owed cX6_owed 3 (some .int) 2 := ⟨bw_memT 1032 rfl rfl, bw_memT 8 rfl rfl, ⟨by decide +kernel, by decide +kernel⟩, by decide +kernel⟩
set_option maxRecDepth 100000 in
theorem V_X6_owed : Cond.instanceMethod yX6_owed ∈ bw_L ∧ Cond.selects RX6 yX6_owed yX6_owed ∈ bw_L := ⟨bw_memT 1030 rfl rfl, bw_memT 1031 rfl rfl⟩
set_option maxRecDepth 100000 in
theorem Y_X6_lenderOf : bw_Y yX6_lenderOf cX6_lenderOf 3 (some .int) 2 := ⟨bw_memT 1040 rfl rfl, bw_memT 8 rfl rfl, ⟨by decide +kernel, by decide +kernel⟩, by decide +kernel⟩
set_option maxRecDepth 100000 in
theorem V_X6_lenderOf : Cond.instanceMethod yX6_lenderOf ∈ bw_L ∧ Cond.selects RX6 yX6_lenderOf yX6_lenderOf ∈ bw_L := ⟨bw_memT 1039 rfl rfl, bw_mem 59 rfl rfl⟩
set_option maxRecDepth 100000 in
theorem Y_X6_lender : bw_Y yX6_lender cX6_lender 3 (some .int) 2 := ⟨bw_memT 1036 rfl rfl, bw_memT 8 rfl rfl, ⟨by decide +kernel, by decide +kernel⟩, by decide +kernel⟩
set_option maxRecDepth 100000 in
theorem V_X6_lender : Cond.instanceMethod yX6_lender ∈ bw_L ∧ Cond.selects RX6 yX6_lender yX6_lender ∈ bw_L := ⟨bw_memT 1034 rfl rfl, bw_memT 1035 rfl rfl⟩
set_option maxRecDepth 100000 in
theorem Y_X6_ofProjects : bw_Y yX6_ofProjects cX6_ofProjects 4 (some .int) 1 := ⟨bw_memT 1052 rfl rfl, bw_memT 8 rfl rfl, ⟨by decide +kernel, by decide +kernel⟩, by decide +kernel⟩
set_option maxRecDepth 100000 in
theorem V_X6_ofProjects : Cond.instanceMethod yX6_ofProjects ∈ bw_L ∧ Cond.selects RX6 yX6_ofProjects yX6_ofProjects ∈ bw_L := ⟨bw_memT 1051 rfl rfl, bw_mem 61 rfl rfl⟩
set_option maxRecDepth 100000 in
theorem Y_X6_delays : bw_Y yX6_delays cX6_delays 5 (some .int) 0 := ⟨bw_memT 1056 rfl rfl, bw_memT 8 rfl rfl, ⟨by decide +kernel, by decide +kernel⟩, by decide +kernel⟩
set_option maxRecDepth 100000 in
theorem V_X6_delays : Cond.instanceMethod yX6_delays ∈ bw_L ∧ Cond.selects RX6 yX6_delays yX6_delays ∈ bw_L := ⟨bw_memT 1055 rfl rfl, bw_mem 62 rfl rfl⟩
set_option maxRecDepth 100000 in
theorem Y_X6_counted : bw_Y yX6_counted cX6_counted 2 (some .int) 1 := ⟨bw_memT 1048 rfl rfl, bw_memT 8 rfl rfl, ⟨by decide +kernel, by decide +kernel⟩, by decide +kernel⟩
set_option maxRecDepth 100000 in
theorem V_X6_counted : Cond.instanceMethod yX6_counted ∈ bw_L ∧ Cond.selects RX6 yX6_counted yX6_counted ∈ bw_L := ⟨bw_memT 1047 rfl rfl, bw_mem 60 rfl rfl⟩
set_option maxRecDepth 100000 in
theorem Y_X6_count : bw_Y yX6_count cX6_count 2 (some .int) 1 := ⟨bw_memT 1044 rfl rfl, bw_memT 8 rfl rfl, ⟨by decide +kernel, by decide +kernel⟩, by decide +kernel⟩
set_option maxRecDepth 100000 in
theorem V_X6_count : Cond.instanceMethod yX6_count ∈ bw_L ∧ Cond.selects RX6 yX6_count yX6_count ∈ bw_L := ⟨bw_memT 1042 rfl rfl, bw_memT 1043 rfl rfl⟩
set_option maxRecDepth 100000 in
theorem Y_X6_setting : bw_Y yX6_setting cX6_setting 2 (some .int) 1 := ⟨bw_memT 1060 rfl rfl, bw_memT 8 rfl rfl, ⟨by decide +kernel, by decide +kernel⟩, by decide +kernel⟩
set_option maxRecDepth 100000 in
theorem V_X6_setting : Cond.instanceMethod yX6_setting ∈ bw_L ∧ Cond.selects RX6 yX6_setting yX6_setting ∈ bw_L := ⟨bw_memT 1058 rfl rfl, bw_memT 1059 rfl rfl⟩
set_option maxRecDepth 100000 in
theorem Y_X6_doneOf : bw_Y yX6_doneOf cX6_doneOf 5 (some .int) 3 := ⟨bw_memT 1068 rfl rfl, bw_memT 8 rfl rfl, ⟨by decide +kernel, by decide +kernel⟩, by decide +kernel⟩
set_option maxRecDepth 100000 in
theorem V_X6_doneOf : Cond.instanceMethod yX6_doneOf ∈ bw_L ∧ Cond.selects RX6 yX6_doneOf yX6_doneOf ∈ bw_L := ⟨bw_memT 1067 rfl rfl, bw_mem 63 rfl rfl⟩
set_option maxRecDepth 100000 in
theorem Y_X6_ifDone : bw_Y yX6_ifDone cX6_ifDone 4 (some .int) 3 := ⟨bw_memT 1064 rfl rfl, bw_memT 8 rfl rfl, ⟨by decide +kernel, by decide +kernel⟩, by decide +kernel⟩
set_option maxRecDepth 100000 in
theorem V_X6_ifDone : Cond.instanceMethod yX6_ifDone ∈ bw_L ∧ Cond.selects RX6 yX6_ifDone yX6_ifDone ∈ bw_L := ⟨bw_memT 1062 rfl rfl, bw_memT 1063 rfl rfl⟩
set_option maxRecDepth 100000 in
theorem Y_X6_bornBy : bw_Y yX6_bornBy cX6_bornBy 3 (some .int) 1 := ⟨bw_memT 1084 rfl rfl, bw_memT 8 rfl rfl, ⟨by decide +kernel, by decide +kernel⟩, by decide +kernel⟩
set_option maxRecDepth 100000 in
theorem V_X6_bornBy : Cond.instanceMethod yX6_bornBy ∈ bw_L ∧ Cond.selects RX6 yX6_bornBy yX6_bornBy ∈ bw_L := ⟨bw_memT 1083 rfl rfl, bw_mem 66 rfl rfl⟩
set_option maxRecDepth 100000 in
theorem Y_X6_bears : bw_Y yX6_bears cX6_bears 2 (some .int) 1 := ⟨bw_memT 1080 rfl rfl, bw_memT 8 rfl rfl, ⟨by decide +kernel, by decide +kernel⟩, by decide +kernel⟩
set_option maxRecDepth 100000 in
theorem V_X6_bears : Cond.instanceMethod yX6_bears ∈ bw_L ∧ Cond.selects RX6 yX6_bears yX6_bears ∈ bw_L := ⟨bw_memT 1078 rfl rfl, bw_memT 1079 rfl rfl⟩
set_option maxRecDepth 100000 in
theorem Y_X6_weakestOf : bw_Y yX6_weakestOf cX6_weakestOf 6 (some .int) 0 := ⟨bw_memT 1093 rfl rfl, bw_memT 8 rfl rfl, ⟨by decide +kernel, by decide +kernel⟩, by decide +kernel⟩
set_option maxRecDepth 100000 in
theorem V_X6_weakestOf : Cond.instanceMethod yX6_weakestOf ∈ bw_L ∧ Cond.selects RX6 yX6_weakestOf yX6_weakestOf ∈ bw_L := ⟨bw_memT 1092 rfl rfl, bw_mem 67 rfl rfl⟩
set_option maxRecDepth 100000 in
theorem Y_X6_weakest : bw_Y yX6_weakest cX6_weakest 1 (some .int) 0 := ⟨bw_memT 1089 rfl rfl, bw_memT 8 rfl rfl, ⟨by decide +kernel, by decide +kernel⟩, by decide +kernel⟩
set_option maxRecDepth 100000 in
theorem V_X6_weakest : Cond.instanceMethod yX6_weakest ∈ bw_L ∧ Cond.selects RX6 yX6_weakest yX6_weakest ∈ bw_L := ⟨bw_memT 1087 rfl rfl, bw_memT 1088 rfl rfl⟩
set_option maxRecDepth 100000 in
theorem Y_X6_leastLeft : bw_Y yX6_leastLeft cX6_leastLeft 3 (some .int) 0 := ⟨bw_memT 1105 rfl rfl, bw_memT 8 rfl rfl, ⟨by decide +kernel, by decide +kernel⟩, by decide +kernel⟩
set_option maxRecDepth 100000 in
theorem V_X6_leastLeft : Cond.instanceMethod yX6_leastLeft ∈ bw_L ∧ Cond.selects RX6 yX6_leastLeft yX6_leastLeft ∈ bw_L := ⟨bw_memT 1104 rfl rfl, bw_mem 69 rfl rfl⟩
set_option maxRecDepth 100000 in
theorem Y_X6_ruleOf : bw_Y yX6_ruleOf cX6_ruleOf 7 (some .int) 2 := ⟨bw_memT 1101 rfl rfl, bw_memT 8 rfl rfl, ⟨by decide +kernel, by decide +kernel⟩, by decide +kernel⟩
set_option maxRecDepth 100000 in
theorem V_X6_ruleOf : Cond.instanceMethod yX6_ruleOf ∈ bw_L ∧ Cond.selects RX6 yX6_ruleOf yX6_ruleOf ∈ bw_L := ⟨bw_memT 1100 rfl rfl, bw_mem 68 rfl rfl⟩
set_option maxRecDepth 100000 in
theorem Y_X6_bestRule : bw_Y yX6_bestRule cX6_bestRule 3 (some .int) 2 := ⟨bw_memT 1097 rfl rfl, bw_memT 8 rfl rfl, ⟨by decide +kernel, by decide +kernel⟩, by decide +kernel⟩
set_option maxRecDepth 100000 in
theorem V_X6_bestRule : Cond.instanceMethod yX6_bestRule ∈ bw_L ∧ Cond.selects RX6 yX6_bestRule yX6_bestRule ∈ bw_L := ⟨bw_memT 1095 rfl rfl, bw_memT 1096 rfl rfl⟩
set_option maxRecDepth 100000 in
theorem Y_X6_shareOf : bw_Y yX6_shareOf cX6_shareOf 2 (some .double) 0 := ⟨bw_memT 1113 rfl rfl, bw_memT 8 rfl rfl, ⟨by decide +kernel, by decide +kernel⟩, by decide +kernel⟩
set_option maxRecDepth 100000 in
theorem V_X6_shareOf : Cond.instanceMethod yX6_shareOf ∈ bw_L ∧ Cond.selects RX6 yX6_shareOf yX6_shareOf ∈ bw_L := ⟨bw_memT 1112 rfl rfl, bw_mem 70 rfl rfl⟩
set_option maxRecDepth 100000 in
theorem Y_X6_lateShare : bw_Y yX6_lateShare cX6_lateShare 1 (some .double) 0 := ⟨bw_memT 1109 rfl rfl, bw_memT 8 rfl rfl, ⟨by decide +kernel, by decide +kernel⟩, by decide +kernel⟩
set_option maxRecDepth 100000 in
theorem V_X6_lateShare : Cond.instanceMethod yX6_lateShare ∈ bw_L ∧ Cond.selects RX6 yX6_lateShare yX6_lateShare ∈ bw_L := ⟨bw_memT 1107 rfl rfl, bw_memT 1108 rfl rfl⟩
set_option maxRecDepth 100000 in
theorem Y_X6_mix : bw_Y yX6_mix cX6_mix 3 none 1 := ⟨bw_memT 1122 rfl rfl, bw_memT 8 rfl rfl, ⟨by decide +kernel, by decide +kernel⟩, by decide +kernel⟩
set_option maxRecDepth 100000 in
theorem V_X6_mix : Cond.instanceMethod yX6_mix ∈ bw_L ∧ Cond.selects RX6 yX6_mix yX6_mix ∈ bw_L := ⟨bw_memT 1121 rfl rfl, bw_mem 71 rfl rfl⟩
set_option maxRecDepth 100000 in
theorem Y_X6_mixProject : bw_Y yX6_mixProject cX6_mixProject 4 none 1 := ⟨bw_memT 1127 rfl rfl, bw_memT 8 rfl rfl, ⟨by decide +kernel, by decide +kernel⟩, by decide +kernel⟩
set_option maxRecDepth 100000 in
theorem V_X6_mixProject : Cond.instanceMethod yX6_mixProject ∈ bw_L ∧ Cond.selects RX6 yX6_mixProject yX6_mixProject ∈ bw_L := ⟨bw_memT 1126 rfl rfl, bw_mem 72 rfl rfl⟩
set_option maxRecDepth 100000 in
theorem i_X0 : ∀ w ∈ u_ws RX0 TX0 7, w ∈ bw_L := fun w h => List.mem_filter.mpr ⟨List.mem_append_right _ (by revert w; decide +kernel), by revert w; decide +kernel⟩
set_option maxRecDepth 100000 in
theorem i_X1 : ∀ w ∈ u_ws RX1 TX1 3, w ∈ bw_L := fun w h => List.mem_filter.mpr ⟨List.mem_append_right _ (by revert w; decide +kernel), by revert w; decide +kernel⟩
set_option maxRecDepth 100000 in
theorem i_X2 : ∀ w ∈ u_ws RX2 TX2 3, w ∈ bw_L := fun w h => List.mem_filter.mpr ⟨List.mem_append_right _ (by revert w; decide +kernel), by revert w; decide +kernel⟩
set_option maxRecDepth 100000 in
theorem i_X3 : ∀ w ∈ u_ws RX3 TX3 2, w ∈ bw_L := fun w h => List.mem_filter.mpr ⟨List.mem_append_right _ (by revert w; decide +kernel), by revert w; decide +kernel⟩
set_option maxRecDepth 100000 in
theorem i_X4 : ∀ w ∈ u_ws RX4 TX4 3, w ∈ bw_L := fun w h => List.mem_filter.mpr ⟨List.mem_append_right _ (by revert w; decide +kernel), by revert w; decide +kernel⟩
set_option maxRecDepth 100000 in
theorem i_X5 : ∀ w ∈ u_ws RX5 TX5 4, w ∈ bw_L := fun w h => List.mem_filter.mpr ⟨List.mem_append_right _ (by revert w; decide +kernel), by revert w; decide +kernel⟩
set_option maxRecDepth 100000 in
theorem i_X6 : ∀ w ∈ u_ws RX6 TX6 17, w ∈ bw_L := fun w h => List.mem_filter.mpr ⟨List.mem_append_right _ (by revert w; decide +kernel), by revert w; decide +kernel⟩
set_option maxRecDepth 100000 in
theorem l_JM_max_s : Cond.static Lib.Math.max.name ∈ bw_L := bw_memT 38 rfl rfl
set_option maxRecDepth 100000 in
theorem l_JM_max_c : Cond.code Lib.Math.max.name Lib.Math.max.code 2 (some .int) ∈ bw_L := bw_memT 39 (by decide +kernel) rfl
set_option maxRecDepth 100000 in
theorem l_JM_min_s : Cond.static Lib.Math.min.name ∈ bw_L := bw_memT 224 rfl rfl
set_option maxRecDepth 100000 in
theorem l_JM_min_c : Cond.code Lib.Math.min.name Lib.Math.min.code 2 (some .int) ∈ bw_L := bw_memT 225 (by decide +kernel) rfl
set_option maxRecDepth 100000 in
theorem l_JM_i : Cond.initialized "java/lang/Math" ∈ bw_L := bw_memT 4 rfl rfl
