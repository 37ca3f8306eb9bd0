section
-- ===== PART A: goes FIRST, ahead of the names: the tables' words, and 'selects' of the private methods out of them =====
/-- a private method of a class that the tables say can be made, by its rows of tables_1 -/
def lw_okq (q : MethodName × Nat) : Prop := (q.1.cls ≠ "java/lang/invoke/MethodHandle" ∧ q.1.cls ≠ "java/lang/invoke/VarHandle") ∧ Cond.instantiable q.1.cls q.2 ∈ tables_1 ∧ Cond.privateMethod q.1 ∈ tables_1 ∧ Cond.instanceMethod q.1 ∈ tables_1
theorem lw_p0 : lw_okq (⟨"BufferLoans$Reader", "begin", "(I)V"⟩, 3) := ⟨⟨by decide +kernel, by decide +kernel⟩, List.mem_of_getElem? (i := 102) (by decide +kernel), List.mem_of_getElem? (i := 165) (by decide +kernel), List.mem_of_getElem? (i := 166) (by decide +kernel)⟩
theorem lw_p1 : lw_okq (⟨"BufferLoans$Reader", "takesDigit", "(I)Z"⟩, 3) := ⟨⟨by decide +kernel, by decide +kernel⟩, List.mem_of_getElem? (i := 102) (by decide +kernel), List.mem_of_getElem? (i := 180) (by decide +kernel), List.mem_of_getElem? (i := 181) (by decide +kernel)⟩
theorem lw_p2 : lw_okq (⟨"BufferLoans$Reader", "leastNumber", "()I"⟩, 3) := ⟨⟨by decide +kernel, by decide +kernel⟩, List.mem_of_getElem? (i := 102) (by decide +kernel), List.mem_of_getElem? (i := 184) (by decide +kernel), List.mem_of_getElem? (i := 185) (by decide +kernel)⟩
theorem lw_p3 : lw_okq (⟨"BufferLoans$Reader", "greatestNumber", "()I"⟩, 3) := ⟨⟨by decide +kernel, by decide +kernel⟩, List.mem_of_getElem? (i := 102) (by decide +kernel), List.mem_of_getElem? (i := 188) (by decide +kernel), List.mem_of_getElem? (i := 189) (by decide +kernel)⟩
theorem lw_p4 : lw_okq (⟨"BufferLoans$Reader", "takesSign", "(I)Z"⟩, 3) := ⟨⟨by decide +kernel, by decide +kernel⟩, List.mem_of_getElem? (i := 102) (by decide +kernel), List.mem_of_getElem? (i := 192) (by decide +kernel), List.mem_of_getElem? (i := 193) (by decide +kernel)⟩
theorem lw_p5 : lw_okq (⟨"BufferLoans$Desk", "lendableDays", "(II)I"⟩, 7) := ⟨⟨by decide +kernel, by decide +kernel⟩, List.mem_of_getElem? (i := 26) (by decide +kernel), List.mem_of_getElem? (i := 227) (by decide +kernel), List.mem_of_getElem? (i := 228) (by decide +kernel)⟩
theorem lw_p6 : lw_okq (⟨"BufferLoans", "numberOf", "(I)I"⟩, 4) := ⟨⟨by decide +kernel, by decide +kernel⟩, List.mem_of_getElem? (i := 18) (by decide +kernel), List.mem_of_getElem? (i := 252) (by decide +kernel), List.mem_of_getElem? (i := 253) (by decide +kernel)⟩
theorem lw_p7 : lw_okq (⟨"BufferLoans", "mixWhatIs", "(JI)J"⟩, 4) := ⟨⟨by decide +kernel, by decide +kernel⟩, List.mem_of_getElem? (i := 18) (by decide +kernel), List.mem_of_getElem? (i := 277) (by decide +kernel), List.mem_of_getElem? (i := 278) (by decide +kernel)⟩
theorem lw_p8 : lw_okq (⟨"BufferLoans$Desk", "queueLenders", "(I)I"⟩, 7) := ⟨⟨by decide +kernel, by decide +kernel⟩, List.mem_of_getElem? (i := 26) (by decide +kernel), List.mem_of_getElem? (i := 293) (by decide +kernel), List.mem_of_getElem? (i := 294) (by decide +kernel)⟩
theorem lw_p9 : lw_okq (⟨"BufferLoans$Desk", "weightOfLender", "(II)I"⟩, 7) := ⟨⟨by decide +kernel, by decide +kernel⟩, List.mem_of_getElem? (i := 26) (by decide +kernel), List.mem_of_getElem? (i := 297) (by decide +kernel), List.mem_of_getElem? (i := 298) (by decide +kernel)⟩
theorem lw_p10 : lw_okq (⟨"BufferLoans", "mixWhatWouldBe", "(JI)J"⟩, 4) := ⟨⟨by decide +kernel, by decide +kernel⟩, List.mem_of_getElem? (i := 18) (by decide +kernel), List.mem_of_getElem? (i := 305) (by decide +kernel), List.mem_of_getElem? (i := 306) (by decide +kernel)⟩
theorem lw_p11 : lw_okq (⟨"BufferLoans", "tryNextTask", "(II)Z"⟩, 4) := ⟨⟨by decide +kernel, by decide +kernel⟩, List.mem_of_getElem? (i := 18) (by decide +kernel), List.mem_of_getElem? (i := 310) (by decide +kernel), List.mem_of_getElem? (i := 311) (by decide +kernel)⟩
theorem lw_p12 : lw_okq (⟨"BufferLoans$Desk", "useDays", "(II)V"⟩, 7) := ⟨⟨by decide +kernel, by decide +kernel⟩, List.mem_of_getElem? (i := 26) (by decide +kernel), List.mem_of_getElem? (i := 338) (by decide +kernel), List.mem_of_getElem? (i := 339) (by decide +kernel)⟩
theorem lw_p13 : lw_okq (⟨"BufferLoans$Desk", "repay", "(II)V"⟩, 7) := ⟨⟨by decide +kernel, by decide +kernel⟩, List.mem_of_getElem? (i := 26) (by decide +kernel), List.mem_of_getElem? (i := 342) (by decide +kernel), List.mem_of_getElem? (i := 343) (by decide +kernel)⟩
theorem lw_p14 : lw_okq (⟨"BufferLoans$Desk", "changeLoan", "(II)V"⟩, 7) := ⟨⟨by decide +kernel, by decide +kernel⟩, List.mem_of_getElem? (i := 26) (by decide +kernel), List.mem_of_getElem? (i := 350) (by decide +kernel), List.mem_of_getElem? (i := 351) (by decide +kernel)⟩
theorem lw_p15 : lw_okq (⟨"BufferLoans$Desk", "moveDays", "(III)V"⟩, 7) := ⟨⟨by decide +kernel, by decide +kernel⟩, List.mem_of_getElem? (i := 26) (by decide +kernel), List.mem_of_getElem? (i := 358) (by decide +kernel), List.mem_of_getElem? (i := 359) (by decide +kernel)⟩
def lw_privs_1 : List (MethodName × Nat) := [(⟨"BufferLoans$Reader", "begin", "(I)V"⟩, 3), (⟨"BufferLoans$Reader", "takesDigit", "(I)Z"⟩, 3), (⟨"BufferLoans$Reader", "leastNumber", "()I"⟩, 3), (⟨"BufferLoans$Reader", "greatestNumber", "()I"⟩, 3), (⟨"BufferLoans$Reader", "takesSign", "(I)Z"⟩, 3), (⟨"BufferLoans$Desk", "lendableDays", "(II)I"⟩, 7), (⟨"BufferLoans", "numberOf", "(I)I"⟩, 4), (⟨"BufferLoans", "mixWhatIs", "(JI)J"⟩, 4), (⟨"BufferLoans$Desk", "queueLenders", "(I)I"⟩, 7), (⟨"BufferLoans$Desk", "weightOfLender", "(II)I"⟩, 7), (⟨"BufferLoans", "mixWhatWouldBe", "(JI)J"⟩, 4), (⟨"BufferLoans", "tryNextTask", "(II)Z"⟩, 4), (⟨"BufferLoans$Desk", "useDays", "(II)V"⟩, 7), (⟨"BufferLoans$Desk", "repay", "(II)V"⟩, 7), (⟨"BufferLoans$Desk", "changeLoan", "(II)V"⟩, 7), (⟨"BufferLoans$Desk", "moveDays", "(III)V"⟩, 7)]
theorem lw_r1 : ∀ q ∈ lw_privs_1, lw_okq q := List.forall_mem_cons.mpr ⟨lw_p0, List.forall_mem_cons.mpr ⟨lw_p1, List.forall_mem_cons.mpr ⟨lw_p2, List.forall_mem_cons.mpr ⟨lw_p3, List.forall_mem_cons.mpr ⟨lw_p4, List.forall_mem_cons.mpr ⟨lw_p5, List.forall_mem_cons.mpr ⟨lw_p6, List.forall_mem_cons.mpr ⟨lw_p7, List.forall_mem_cons.mpr ⟨lw_p8, List.forall_mem_cons.mpr ⟨lw_p9, List.forall_mem_cons.mpr ⟨lw_p10, List.forall_mem_cons.mpr ⟨lw_p11, List.forall_mem_cons.mpr ⟨lw_p12, List.forall_mem_cons.mpr ⟨lw_p13, List.forall_mem_cons.mpr ⟨lw_p14, List.forall_mem_cons.mpr ⟨lw_p15, fun _ h => absurd h List.not_mem_nil⟩⟩⟩⟩⟩⟩⟩⟩⟩⟩⟩⟩⟩⟩⟩⟩
theorem lw_p16 : lw_okq (⟨"BufferLoans$Desk", "callBack", "(II)I"⟩, 7) := ⟨⟨by decide +kernel, by decide +kernel⟩, List.mem_of_getElem? (i := 26) (by decide +kernel), List.mem_of_getElem? (i := 362) (by decide +kernel), List.mem_of_getElem? (i := 363) (by decide +kernel)⟩
theorem lw_p17 : lw_okq (⟨"BufferLoans$Desk", "borrow", "(II)I"⟩, 7) := ⟨⟨by decide +kernel, by decide +kernel⟩, List.mem_of_getElem? (i := 26) (by decide +kernel), List.mem_of_getElem? (i := 366) (by decide +kernel), List.mem_of_getElem? (i := 367) (by decide +kernel)⟩
theorem lw_p18 : lw_okq (⟨"BufferLoans", "resultOfTrial", "(II)I"⟩, 4) := ⟨⟨by decide +kernel, by decide +kernel⟩, List.mem_of_getElem? (i := 18) (by decide +kernel), List.mem_of_getElem? (i := 375) (by decide +kernel), List.mem_of_getElem? (i := 376) (by decide +kernel)⟩
theorem lw_p19 : lw_okq (⟨"BufferLoans", "bestRuleFor", "(II)I"⟩, 4) := ⟨⟨by decide +kernel, by decide +kernel⟩, List.mem_of_getElem? (i := 18) (by decide +kernel), List.mem_of_getElem? (i := 380) (by decide +kernel), List.mem_of_getElem? (i := 381) (by decide +kernel)⟩
theorem lw_p20 : lw_okq (⟨"java/lang/Throwable", "fillInStackTrace", "(I)Ljava/lang/Throwable;"⟩, 6) := ⟨⟨by decide +kernel, by decide +kernel⟩, List.mem_of_getElem? (i := 458) (by decide +kernel), List.mem_of_getElem? (i := 456) (by decide +kernel), List.mem_of_getElem? (i := 457) (by decide +kernel)⟩
theorem lw_p21 : lw_okq (⟨"BufferLoans$History", "slotAt", "(I)LBufferLoans$Desk;"⟩, 3) := ⟨⟨by decide +kernel, by decide +kernel⟩, List.mem_of_getElem? (i := 77) (by decide +kernel), List.mem_of_getElem? (i := 508) (by decide +kernel), List.mem_of_getElem? (i := 509) (by decide +kernel)⟩
theorem lw_p22 : lw_okq (⟨"BufferLoans", "needProject", "(I)V"⟩, 4) := ⟨⟨by decide +kernel, by decide +kernel⟩, List.mem_of_getElem? (i := 18) (by decide +kernel), List.mem_of_getElem? (i := 526) (by decide +kernel), List.mem_of_getElem? (i := 527) (by decide +kernel)⟩
theorem lw_p23 : lw_okq (⟨"BufferLoans$Desk", "writeOff", "(I)I"⟩, 7) := ⟨⟨by decide +kernel, by decide +kernel⟩, List.mem_of_getElem? (i := 26) (by decide +kernel), List.mem_of_getElem? (i := 620) (by decide +kernel), List.mem_of_getElem? (i := 621) (by decide +kernel)⟩
theorem lw_p24 : lw_okq (⟨"BufferLoans", "openProjectsOfText", "()V"⟩, 4) := ⟨⟨by decide +kernel, by decide +kernel⟩, List.mem_of_getElem? (i := 18) (by decide +kernel), List.mem_of_getElem? (i := 658) (by decide +kernel), List.mem_of_getElem? (i := 659) (by decide +kernel)⟩
theorem lw_p25 : lw_okq (⟨"BufferLoansModel", "fails", "(I)I"⟩, 17) := ⟨⟨by decide +kernel, by decide +kernel⟩, List.mem_of_getElem? (i := 753) (by decide +kernel), List.mem_of_getElem? (i := 825) (by decide +kernel), List.mem_of_getElem? (i := 826) (by decide +kernel)⟩
theorem lw_p26 : lw_okq (⟨"BufferLoansModel", "save", "()V"⟩, 17) := ⟨⟨by decide +kernel, by decide +kernel⟩, List.mem_of_getElem? (i := 753) (by decide +kernel), List.mem_of_getElem? (i := 829) (by decide +kernel), List.mem_of_getElem? (i := 830) (by decide +kernel)⟩
theorem lw_p27 : lw_okq (⟨"BufferLoansModel", "openNow", "(II)V"⟩, 17) := ⟨⟨by decide +kernel, by decide +kernel⟩, List.mem_of_getElem? (i := 753) (by decide +kernel), List.mem_of_getElem? (i := 833) (by decide +kernel), List.mem_of_getElem? (i := 834) (by decide +kernel)⟩
theorem lw_p28 : lw_okq (⟨"BufferLoansModel", "isProject", "(I)Z"⟩, 17) := ⟨⟨by decide +kernel, by decide +kernel⟩, List.mem_of_getElem? (i := 753) (by decide +kernel), List.mem_of_getElem? (i := 844) (by decide +kernel), List.mem_of_getElem? (i := 845) (by decide +kernel)⟩
theorem lw_p29 : lw_okq (⟨"BufferLoansModel", "isOpen", "(I)Z"⟩, 17) := ⟨⟨by decide +kernel, by decide +kernel⟩, List.mem_of_getElem? (i := 753) (by decide +kernel), List.mem_of_getElem? (i := 848) (by decide +kernel), List.mem_of_getElem? (i := 849) (by decide +kernel)⟩
theorem lw_p30 : lw_okq (⟨"BufferLoansModel", "planNow", "(II)V"⟩, 17) := ⟨⟨by decide +kernel, by decide +kernel⟩, List.mem_of_getElem? (i := 753) (by decide +kernel), List.mem_of_getElem? (i := 852) (by decide +kernel), List.mem_of_getElem? (i := 853) (by decide +kernel)⟩
theorem lw_p31 : lw_okq (⟨"BufferLoansModel", "mayDo", "(I)Z"⟩, 17) := ⟨⟨by decide +kernel, by decide +kernel⟩, List.mem_of_getElem? (i := 753) (by decide +kernel), List.mem_of_getElem? (i := 868) (by decide +kernel), List.mem_of_getElem? (i := 869) (by decide +kernel)⟩
def lw_privs_2 : List (MethodName × Nat) := [(⟨"BufferLoans$Desk", "callBack", "(II)I"⟩, 7), (⟨"BufferLoans$Desk", "borrow", "(II)I"⟩, 7), (⟨"BufferLoans", "resultOfTrial", "(II)I"⟩, 4), (⟨"BufferLoans", "bestRuleFor", "(II)I"⟩, 4), (⟨"java/lang/Throwable", "fillInStackTrace", "(I)Ljava/lang/Throwable;"⟩, 6), (⟨"BufferLoans$History", "slotAt", "(I)LBufferLoans$Desk;"⟩, 3), (⟨"BufferLoans", "needProject", "(I)V"⟩, 4), (⟨"BufferLoans$Desk", "writeOff", "(I)I"⟩, 7), (⟨"BufferLoans", "openProjectsOfText", "()V"⟩, 4), (⟨"BufferLoansModel", "fails", "(I)I"⟩, 17), (⟨"BufferLoansModel", "save", "()V"⟩, 17), (⟨"BufferLoansModel", "openNow", "(II)V"⟩, 17), (⟨"BufferLoansModel", "isProject", "(I)Z"⟩, 17), (⟨"BufferLoansModel", "isOpen", "(I)Z"⟩, 17), (⟨"BufferLoansModel", "planNow", "(II)V"⟩, 17), (⟨"BufferLoansModel", "mayDo", "(I)Z"⟩, 17)]
theorem lw_r2 : ∀ q ∈ lw_privs_2, lw_okq q := List.forall_mem_cons.mpr ⟨lw_p16, List.forall_mem_cons.mpr ⟨lw_p17, List.forall_mem_cons.mpr ⟨lw_p18, List.forall_mem_cons.mpr ⟨lw_p19, List.forall_mem_cons.mpr ⟨lw_p20, List.forall_mem_cons.mpr ⟨lw_p21, List.forall_mem_cons.mpr ⟨lw_p22, List.forall_mem_cons.mpr ⟨lw_p23, List.forall_mem_cons.mpr ⟨lw_p24, List.forall_mem_cons.mpr ⟨lw_p25, List.forall_mem_cons.mpr ⟨lw_p26, List.forall_mem_cons.mpr ⟨lw_p27, List.forall_mem_cons.mpr ⟨lw_p28, List.forall_mem_cons.mpr ⟨lw_p29, List.forall_mem_cons.mpr ⟨lw_p30, List.forall_mem_cons.mpr ⟨lw_p31, fun _ h => absurd h List.not_mem_nil⟩⟩⟩⟩⟩⟩⟩⟩⟩⟩⟩⟩⟩⟩⟩⟩
theorem lw_p32 : lw_okq (⟨"BufferLoansModel", "hasNext", "(I)Z"⟩, 17) := ⟨⟨by decide +kernel, by decide +kernel⟩, List.mem_of_getElem? (i := 753) (by decide +kernel), List.mem_of_getElem? (i := 872) (by decide +kernel), List.mem_of_getElem? (i := 873) (by decide +kernel)⟩
theorem lw_p33 : lw_okq (⟨"BufferLoansModel", "doNow", "(II)V"⟩, 17) := ⟨⟨by decide +kernel, by decide +kernel⟩, List.mem_of_getElem? (i := 753) (by decide +kernel), List.mem_of_getElem? (i := 876) (by decide +kernel), List.mem_of_getElem? (i := 877) (by decide +kernel)⟩
theorem lw_p34 : lw_okq (⟨"BufferLoansModel", "charge", "(II)V"⟩, 17) := ⟨⟨by decide +kernel, by decide +kernel⟩, List.mem_of_getElem? (i := 753) (by decide +kernel), List.mem_of_getElem? (i := 880) (by decide +kernel), List.mem_of_getElem? (i := 881) (by decide +kernel)⟩
theorem lw_p35 : lw_okq (⟨"BufferLoansModel", "callBack", "(II)V"⟩, 17) := ⟨⟨by decide +kernel, by decide +kernel⟩, List.mem_of_getElem? (i := 753) (by decide +kernel), List.mem_of_getElem? (i := 887) (by decide +kernel), List.mem_of_getElem? (i := 888) (by decide +kernel)⟩
theorem lw_p36 : lw_okq (⟨"BufferLoansModel", "cutLoan", "(II)V"⟩, 17) := ⟨⟨by decide +kernel, by decide +kernel⟩, List.mem_of_getElem? (i := 753) (by decide +kernel), List.mem_of_getElem? (i := 894) (by decide +kernel), List.mem_of_getElem? (i := 895) (by decide +kernel)⟩
theorem lw_p37 : lw_okq (⟨"BufferLoansModel", "dropLoan", "(I)V"⟩, 17) := ⟨⟨by decide +kernel, by decide +kernel⟩, List.mem_of_getElem? (i := 753) (by decide +kernel), List.mem_of_getElem? (i := 898) (by decide +kernel), List.mem_of_getElem? (i := 899) (by decide +kernel)⟩
theorem lw_p38 : lw_okq (⟨"BufferLoansModel", "borrow", "(II)V"⟩, 17) := ⟨⟨by decide +kernel, by decide +kernel⟩, List.mem_of_getElem? (i := 753) (by decide +kernel), List.mem_of_getElem? (i := 902) (by decide +kernel), List.mem_of_getElem? (i := 903) (by decide +kernel)⟩
theorem lw_p39 : lw_okq (⟨"BufferLoansModel", "layOrder", "(I)V"⟩, 17) := ⟨⟨by decide +kernel, by decide +kernel⟩, List.mem_of_getElem? (i := 753) (by decide +kernel), List.mem_of_getElem? (i := 906) (by decide +kernel), List.mem_of_getElem? (i := 907) (by decide +kernel)⟩
theorem lw_p40 : lw_okq (⟨"BufferLoansModel", "canLend", "(I)I"⟩, 17) := ⟨⟨by decide +kernel, by decide +kernel⟩, List.mem_of_getElem? (i := 753) (by decide +kernel), List.mem_of_getElem? (i := 910) (by decide +kernel), List.mem_of_getElem? (i := 911) (by decide +kernel)⟩
theorem lw_p41 : lw_okq (⟨"BufferLoansModel", "merit", "(I)I"⟩, 17) := ⟨⟨by decide +kernel, by decide +kernel⟩, List.mem_of_getElem? (i := 753) (by decide +kernel), List.mem_of_getElem? (i := 914) (by decide +kernel), List.mem_of_getElem? (i := 915) (by decide +kernel)⟩
theorem lw_p42 : lw_okq (⟨"BufferLoansModel", "lentBy", "(I)I"⟩, 17) := ⟨⟨by decide +kernel, by decide +kernel⟩, List.mem_of_getElem? (i := 753) (by decide +kernel), List.mem_of_getElem? (i := 918) (by decide +kernel), List.mem_of_getElem? (i := 919) (by decide +kernel)⟩
theorem lw_p43 : lw_okq (⟨"BufferLoansModel", "addLoan", "(III)V"⟩, 17) := ⟨⟨by decide +kernel, by decide +kernel⟩, List.mem_of_getElem? (i := 753) (by decide +kernel), List.mem_of_getElem? (i := 922) (by decide +kernel), List.mem_of_getElem? (i := 923) (by decide +kernel)⟩
theorem lw_p44 : lw_okq (⟨"BufferLoansModel", "placeOf", "(II)I"⟩, 17) := ⟨⟨by decide +kernel, by decide +kernel⟩, List.mem_of_getElem? (i := 753) (by decide +kernel), List.mem_of_getElem? (i := 926) (by decide +kernel), List.mem_of_getElem? (i := 927) (by decide +kernel)⟩
theorem lw_p45 : lw_okq (⟨"BufferLoansModel", "payAll", "(II)V"⟩, 17) := ⟨⟨by decide +kernel, by decide +kernel⟩, List.mem_of_getElem? (i := 753) (by decide +kernel), List.mem_of_getElem? (i := 930) (by decide +kernel), List.mem_of_getElem? (i := 931) (by decide +kernel)⟩
theorem lw_p46 : lw_okq (⟨"BufferLoansModel", "owedOf", "(II)I"⟩, 17) := ⟨⟨by decide +kernel, by decide +kernel⟩, List.mem_of_getElem? (i := 753) (by decide +kernel), List.mem_of_getElem? (i := 938) (by decide +kernel), List.mem_of_getElem? (i := 939) (by decide +kernel)⟩
theorem lw_p47 : lw_okq (⟨"BufferLoansModel", "writeOff", "(I)I"⟩, 17) := ⟨⟨by decide +kernel, by decide +kernel⟩, List.mem_of_getElem? (i := 753) (by decide +kernel), List.mem_of_getElem? (i := 950) (by decide +kernel), List.mem_of_getElem? (i := 951) (by decide +kernel)⟩
def lw_privs_3 : List (MethodName × Nat) := [(⟨"BufferLoansModel", "hasNext", "(I)Z"⟩, 17), (⟨"BufferLoansModel", "doNow", "(II)V"⟩, 17), (⟨"BufferLoansModel", "charge", "(II)V"⟩, 17), (⟨"BufferLoansModel", "callBack", "(II)V"⟩, 17), (⟨"BufferLoansModel", "cutLoan", "(II)V"⟩, 17), (⟨"BufferLoansModel", "dropLoan", "(I)V"⟩, 17), (⟨"BufferLoansModel", "borrow", "(II)V"⟩, 17), (⟨"BufferLoansModel", "layOrder", "(I)V"⟩, 17), (⟨"BufferLoansModel", "canLend", "(I)I"⟩, 17), (⟨"BufferLoansModel", "merit", "(I)I"⟩, 17), (⟨"BufferLoansModel", "lentBy", "(I)I"⟩, 17), (⟨"BufferLoansModel", "addLoan", "(III)V"⟩, 17), (⟨"BufferLoansModel", "placeOf", "(II)I"⟩, 17), (⟨"BufferLoansModel", "payAll", "(II)V"⟩, 17), (⟨"BufferLoansModel", "owedOf", "(II)I"⟩, 17), (⟨"BufferLoansModel", "writeOff", "(I)I"⟩, 17)]
theorem lw_r3 : ∀ q ∈ lw_privs_3, lw_okq q := List.forall_mem_cons.mpr ⟨lw_p32, List.forall_mem_cons.mpr ⟨lw_p33, List.forall_mem_cons.mpr ⟨lw_p34, List.forall_mem_cons.mpr ⟨lw_p35, List.forall_mem_cons.mpr ⟨lw_p36, List.forall_mem_cons.mpr ⟨lw_p37, List.forall_mem_cons.mpr ⟨lw_p38, List.forall_mem_cons.mpr ⟨lw_p39, List.forall_mem_cons.mpr ⟨lw_p40, List.forall_mem_cons.mpr ⟨lw_p41, List.forall_mem_cons.mpr ⟨lw_p42, List.forall_mem_cons.mpr ⟨lw_p43, List.forall_mem_cons.mpr ⟨lw_p44, List.forall_mem_cons.mpr ⟨lw_p45, List.forall_mem_cons.mpr ⟨lw_p46, List.forall_mem_cons.mpr ⟨lw_p47, fun _ h => absurd h List.not_mem_nil⟩⟩⟩⟩⟩⟩⟩⟩⟩⟩⟩⟩⟩⟩⟩⟩
theorem lw_p48 : lw_okq (⟨"BufferLoansModel", "isPlan", "()Z"⟩, 17) := ⟨⟨by decide +kernel, by decide +kernel⟩, List.mem_of_getElem? (i := 753) (by decide +kernel), List.mem_of_getElem? (i := 966) (by decide +kernel), List.mem_of_getElem? (i := 967) (by decide +kernel)⟩
theorem lw_p49 : lw_okq (⟨"BufferLoansModel", "readProject", "()Z"⟩, 17) := ⟨⟨by decide +kernel, by decide +kernel⟩, List.mem_of_getElem? (i := 753) (by decide +kernel), List.mem_of_getElem? (i := 970) (by decide +kernel), List.mem_of_getElem? (i := 971) (by decide +kernel)⟩
theorem lw_p50 : lw_okq (⟨"BufferLoansModel", "number", "(II)I"⟩, 17) := ⟨⟨by decide +kernel, by decide +kernel⟩, List.mem_of_getElem? (i := 753) (by decide +kernel), List.mem_of_getElem? (i := 974) (by decide +kernel), List.mem_of_getElem? (i := 975) (by decide +kernel)⟩
theorem lw_p51 : lw_okq (⟨"BufferLoansModel", "next", "()I"⟩, 17) := ⟨⟨by decide +kernel, by decide +kernel⟩, List.mem_of_getElem? (i := 753) (by decide +kernel), List.mem_of_getElem? (i := 978) (by decide +kernel), List.mem_of_getElem? (i := 979) (by decide +kernel)⟩
theorem lw_p52 : lw_okq (⟨"BufferLoansModel", "takes", "(I)Z"⟩, 17) := ⟨⟨by decide +kernel, by decide +kernel⟩, List.mem_of_getElem? (i := 753) (by decide +kernel), List.mem_of_getElem? (i := 982) (by decide +kernel), List.mem_of_getElem? (i := 983) (by decide +kernel)⟩
theorem lw_p53 : lw_okq (⟨"BufferLoansModel", "tasks", "(I)Z"⟩, 17) := ⟨⟨by decide +kernel, by decide +kernel⟩, List.mem_of_getElem? (i := 753) (by decide +kernel), List.mem_of_getElem? (i := 986) (by decide +kernel), List.mem_of_getElem? (i := 987) (by decide +kernel)⟩
theorem lw_p54 : lw_okq (⟨"BufferLoansModel", "projectOf", "(II)I"⟩, 17) := ⟨⟨by decide +kernel, by decide +kernel⟩, List.mem_of_getElem? (i := 753) (by decide +kernel), List.mem_of_getElem? (i := 1002) (by decide +kernel), List.mem_of_getElem? (i := 1003) (by decide +kernel)⟩
theorem lw_p55 : lw_okq (⟨"BufferLoansModel", "owedBy", "(I)I"⟩, 17) := ⟨⟨by decide +kernel, by decide +kernel⟩, List.mem_of_getElem? (i := 753) (by decide +kernel), List.mem_of_getElem? (i := 1006) (by decide +kernel), List.mem_of_getElem? (i := 1007) (by decide +kernel)⟩
theorem lw_p56 : lw_okq (⟨"BufferLoansModel", "planned", "(I)I"⟩, 17) := ⟨⟨by decide +kernel, by decide +kernel⟩, List.mem_of_getElem? (i := 753) (by decide +kernel), List.mem_of_getElem? (i := 1010) (by decide +kernel), List.mem_of_getElem? (i := 1011) (by decide +kernel)⟩
theorem lw_p57 : lw_okq (⟨"BufferLoansModel", "spent", "(I)I"⟩, 17) := ⟨⟨by decide +kernel, by decide +kernel⟩, List.mem_of_getElem? (i := 753) (by decide +kernel), List.mem_of_getElem? (i := 1014) (by decide +kernel), List.mem_of_getElem? (i := 1015) (by decide +kernel)⟩
theorem lw_p58 : lw_okq (⟨"BufferLoansModel", "taskOf", "(III)I"⟩, 17) := ⟨⟨by decide +kernel, by decide +kernel⟩, List.mem_of_getElem? (i := 753) (by decide +kernel), List.mem_of_getElem? (i := 1022) (by decide +kernel), List.mem_of_getElem? (i := 1023) (by decide +kernel)⟩
theorem lw_p59 : lw_okq (⟨"BufferLoansModel", "lenderOf", "(II)I"⟩, 17) := ⟨⟨by decide +kernel, by decide +kernel⟩, List.mem_of_getElem? (i := 753) (by decide +kernel), List.mem_of_getElem? (i := 1038) (by decide +kernel), List.mem_of_getElem? (i := 1039) (by decide +kernel)⟩
theorem lw_p60 : lw_okq (⟨"BufferLoansModel", "counted", "(I)I"⟩, 17) := ⟨⟨by decide +kernel, by decide +kernel⟩, List.mem_of_getElem? (i := 753) (by decide +kernel), List.mem_of_getElem? (i := 1046) (by decide +kernel), List.mem_of_getElem? (i := 1047) (by decide +kernel)⟩
theorem lw_p61 : lw_okq (⟨"BufferLoansModel", "ofProjects", "(I)I"⟩, 17) := ⟨⟨by decide +kernel, by decide +kernel⟩, List.mem_of_getElem? (i := 753) (by decide +kernel), List.mem_of_getElem? (i := 1050) (by decide +kernel), List.mem_of_getElem? (i := 1051) (by decide +kernel)⟩
theorem lw_p62 : lw_okq (⟨"BufferLoansModel", "delays", "()I"⟩, 17) := ⟨⟨by decide +kernel, by decide +kernel⟩, List.mem_of_getElem? (i := 753) (by decide +kernel), List.mem_of_getElem? (i := 1054) (by decide +kernel), List.mem_of_getElem? (i := 1055) (by decide +kernel)⟩
theorem lw_p63 : lw_okq (⟨"BufferLoansModel", "doneOf", "(III)I"⟩, 17) := ⟨⟨by decide +kernel, by decide +kernel⟩, List.mem_of_getElem? (i := 753) (by decide +kernel), List.mem_of_getElem? (i := 1066) (by decide +kernel), List.mem_of_getElem? (i := 1067) (by decide +kernel)⟩
def lw_privs_4 : List (MethodName × Nat) := [(⟨"BufferLoansModel", "isPlan", "()Z"⟩, 17), (⟨"BufferLoansModel", "readProject", "()Z"⟩, 17), (⟨"BufferLoansModel", "number", "(II)I"⟩, 17), (⟨"BufferLoansModel", "next", "()I"⟩, 17), (⟨"BufferLoansModel", "takes", "(I)Z"⟩, 17), (⟨"BufferLoansModel", "tasks", "(I)Z"⟩, 17), (⟨"BufferLoansModel", "projectOf", "(II)I"⟩, 17), (⟨"BufferLoansModel", "owedBy", "(I)I"⟩, 17), (⟨"BufferLoansModel", "planned", "(I)I"⟩, 17), (⟨"BufferLoansModel", "spent", "(I)I"⟩, 17), (⟨"BufferLoansModel", "taskOf", "(III)I"⟩, 17), (⟨"BufferLoansModel", "lenderOf", "(II)I"⟩, 17), (⟨"BufferLoansModel", "counted", "(I)I"⟩, 17), (⟨"BufferLoansModel", "ofProjects", "(I)I"⟩, 17), (⟨"BufferLoansModel", "delays", "()I"⟩, 17), (⟨"BufferLoansModel", "doneOf", "(III)I"⟩, 17)]
theorem lw_r4 : ∀ q ∈ lw_privs_4, lw_okq q := List.forall_mem_cons.mpr ⟨lw_p48, List.forall_mem_cons.mpr ⟨lw_p49, List.forall_mem_cons.mpr ⟨lw_p50, List.forall_mem_cons.mpr ⟨lw_p51, List.forall_mem_cons.mpr ⟨lw_p52, List.forall_mem_cons.mpr ⟨lw_p53, List.forall_mem_cons.mpr ⟨lw_p54, List.forall_mem_cons.mpr ⟨lw_p55, List.forall_mem_cons.mpr ⟨lw_p56, List.forall_mem_cons.mpr ⟨lw_p57, List.forall_mem_cons.mpr ⟨lw_p58, List.forall_mem_cons.mpr ⟨lw_p59, List.forall_mem_cons.mpr ⟨lw_p60, List.forall_mem_cons.mpr ⟨lw_p61, List.forall_mem_cons.mpr ⟨lw_p62, List.forall_mem_cons.mpr ⟨lw_p63, fun _ h => absurd h List.not_mem_nil⟩⟩⟩⟩⟩⟩⟩⟩⟩⟩⟩⟩⟩⟩⟩⟩
theorem lw_p64 : lw_okq (⟨"BufferLoansModel", "putAside", "()V"⟩, 17) := ⟨⟨by decide +kernel, by decide +kernel⟩, List.mem_of_getElem? (i := 753) (by decide +kernel), List.mem_of_getElem? (i := 1070) (by decide +kernel), List.mem_of_getElem? (i := 1071) (by decide +kernel)⟩
theorem lw_p65 : lw_okq (⟨"BufferLoansModel", "putBack", "()V"⟩, 17) := ⟨⟨by decide +kernel, by decide +kernel⟩, List.mem_of_getElem? (i := 753) (by decide +kernel), List.mem_of_getElem? (i := 1074) (by decide +kernel), List.mem_of_getElem? (i := 1075) (by decide +kernel)⟩
theorem lw_p66 : lw_okq (⟨"BufferLoansModel", "bornBy", "(I)I"⟩, 17) := ⟨⟨by decide +kernel, by decide +kernel⟩, List.mem_of_getElem? (i := 753) (by decide +kernel), List.mem_of_getElem? (i := 1082) (by decide +kernel), List.mem_of_getElem? (i := 1083) (by decide +kernel)⟩
theorem lw_p67 : lw_okq (⟨"BufferLoansModel", "weakestOf", "()I"⟩, 17) := ⟨⟨by decide +kernel, by decide +kernel⟩, List.mem_of_getElem? (i := 753) (by decide +kernel), List.mem_of_getElem? (i := 1091) (by decide +kernel), List.mem_of_getElem? (i := 1092) (by decide +kernel)⟩
theorem lw_p68 : lw_okq (⟨"BufferLoansModel", "ruleOf", "(II)I"⟩, 17) := ⟨⟨by decide +kernel, by decide +kernel⟩, List.mem_of_getElem? (i := 753) (by decide +kernel), List.mem_of_getElem? (i := 1099) (by decide +kernel), List.mem_of_getElem? (i := 1100) (by decide +kernel)⟩
theorem lw_p69 : lw_okq (⟨"BufferLoansModel", "leastLeft", "()I"⟩, 17) := ⟨⟨by decide +kernel, by decide +kernel⟩, List.mem_of_getElem? (i := 753) (by decide +kernel), List.mem_of_getElem? (i := 1103) (by decide +kernel), List.mem_of_getElem? (i := 1104) (by decide +kernel)⟩
theorem lw_p70 : lw_okq (⟨"BufferLoansModel", "shareOf", "()D"⟩, 17) := ⟨⟨by decide +kernel, by decide +kernel⟩, List.mem_of_getElem? (i := 753) (by decide +kernel), List.mem_of_getElem? (i := 1111) (by decide +kernel), List.mem_of_getElem? (i := 1112) (by decide +kernel)⟩
theorem lw_p71 : lw_okq (⟨"BufferLoansModel", "mix", "(J)V"⟩, 17) := ⟨⟨by decide +kernel, by decide +kernel⟩, List.mem_of_getElem? (i := 753) (by decide +kernel), List.mem_of_getElem? (i := 1120) (by decide +kernel), List.mem_of_getElem? (i := 1121) (by decide +kernel)⟩
theorem lw_p72 : lw_okq (⟨"BufferLoansModel", "mixProject", "(I)V"⟩, 17) := ⟨⟨by decide +kernel, by decide +kernel⟩, List.mem_of_getElem? (i := 753) (by decide +kernel), List.mem_of_getElem? (i := 1125) (by decide +kernel), List.mem_of_getElem? (i := 1126) (by decide +kernel)⟩
def lw_privs_5 : List (MethodName × Nat) := [(⟨"BufferLoansModel", "putAside", "()V"⟩, 17), (⟨"BufferLoansModel", "putBack", "()V"⟩, 17), (⟨"BufferLoansModel", "bornBy", "(I)I"⟩, 17), (⟨"BufferLoansModel", "weakestOf", "()I"⟩, 17), (⟨"BufferLoansModel", "ruleOf", "(II)I"⟩, 17), (⟨"BufferLoansModel", "leastLeft", "()I"⟩, 17), (⟨"BufferLoansModel", "shareOf", "()D"⟩, 17), (⟨"BufferLoansModel", "mix", "(J)V"⟩, 17), (⟨"BufferLoansModel", "mixProject", "(I)V"⟩, 17)]
theorem lw_r5 : ∀ q ∈ lw_privs_5, lw_okq q := List.forall_mem_cons.mpr ⟨lw_p64, List.forall_mem_cons.mpr ⟨lw_p65, List.forall_mem_cons.mpr ⟨lw_p66, List.forall_mem_cons.mpr ⟨lw_p67, List.forall_mem_cons.mpr ⟨lw_p68, List.forall_mem_cons.mpr ⟨lw_p69, List.forall_mem_cons.mpr ⟨lw_p70, List.forall_mem_cons.mpr ⟨lw_p71, List.forall_mem_cons.mpr ⟨lw_p72, fun _ h => absurd h List.not_mem_nil⟩⟩⟩⟩⟩⟩⟩⟩⟩
def lw_privs : List (MethodName × Nat) := lw_privs_1 ++ (lw_privs_2 ++ (lw_privs_3 ++ (lw_privs_4 ++ (lw_privs_5))))
def lw_tbl : List Cond := k2_sels lw_privs ++ tables_1
theorem lw_privs_ok : ∀ q ∈ lw_privs, lw_okq q := by
  show ∀ q ∈ lw_privs_1 ++ (lw_privs_2 ++ (lw_privs_3 ++ (lw_privs_4 ++ (lw_privs_5)))), lw_okq q
  exact List.forall_mem_append.mpr ⟨lw_r1, List.forall_mem_append.mpr ⟨lw_r2, List.forall_mem_append.mpr ⟨lw_r3, List.forall_mem_append.mpr ⟨lw_r4, lw_r5⟩⟩⟩⟩
/-- the streams that the claim lets the run draw from -/
abbrev lw_cs : List Choice := [Jvm.Choice.named "NaN.bits"]
theorem lw_bits : nanBits ∈ lw_cs := by first | decide | exact List.mem_cons_self | simp [lw_cs, nanBits]
end
section
/-! ===== BEGIN words of one list among another's, by their places ===== -/
theorem goodIn_r {big : List Cond} (ws : List Cond) (ps : List Nat) (hp : ws = ps.filterMap (fun i => big[i]?)) (h : ws.all goodWord = true) : GoodIn big ws := by
  intro w hw
  have h1 := List.all_eq_true.mp h w hw
  rw [hp] at hw
  obtain ⟨i, -, hi⟩ := List.mem_filterMap.mp hw
  have hm : w ∈ big := by first | exact List.mem_of_getElem? hi | exact List.getElem?_mem hi
  exact ⟨hm, good_of_word h1⟩
theorem goodIn_app {big a b : List Cond} (ha : GoodIn big a) (hb : GoodIn big b) : GoodIn big (a ++ b) := fun w h => (List.mem_append.mp h).elim (ha w) (hb w)
theorem goodIn_ca {big a b : List Cond} {c : Cond} (ha : GoodIn big (c :: a)) (hb : GoodIn big b) : GoodIn big (c :: (a ++ b)) := fun w h => (List.mem_cons.mp h).elim (fun e => ha w (List.mem_cons.mpr (Or.inl e))) (fun h => (List.mem_append.mp h).elim (fun h => ha w (List.mem_cons.mpr (Or.inr h))) (hb w))
theorem goodIn_sub {big ws : List Cond} (hm : ∀ w ∈ ws, w ∈ big) (h : ws.all goodWord = true) : GoodIn big ws := fun w hw => ⟨hm w hw, good_of_word (List.all_eq_true.mp h w hw)⟩
/-! ===== END ===== -/

/-! ===== BEGIN exceptions that leave a method, and their catching by the caller (launches without stack traces) ===== -/
section VXA
/-! The laws vx_back, vx_callV, vx_callS, vx_callSW, vx_throw0, vx_throwS follow proofs of the library, with one case more: JvmDerived/Free/Laws.lean (Back.of_free), Shelf42/LK1.lean (callV, callS), Shelf/KitTraced.lean (throwNew0V, throwNewS). -/
/-- where a method has thrown q: the class by its name, the cell, what was written, the world -/
def vx_T (XC : String → State → State → Prop) (st : State) (q : Addr) (t : State) (mc ms : Nat) (free : Addr → Prop) : Prop :=
  ∃ (E : String) (ce : Cell) (L : List Loc), XC E st t ∧ t.heap[q]? = some ce ∧ ce.vm = .none ∧ st.vm.findClass E = some ce.cls ∧ st.WarmedH t.vm ∧ st.sameButNew ({ t with vm := st.vm } : State) L mc ms ∧ ∀ z ∈ L, free z.base
def vx_Q (Qc : Array Value → State → Outcome → State → Prop) (XC : String → State → State → Prop) (mc ms : Nat) (free : Addr → Prop) : Array Value → State → Outcome → State → Prop := fun a st o t =>
  (Qc a st o t ∧ ∃ L, FrameEnd st o t L mc ms ∧ ∀ q ∈ L, free q.base) ∨ ∃ q, o = .threw q ∧ vx_T XC st q t mc ms free
/-- a callee that returns or throws -/
def vx_Met (l : Launch) (y : MethodName) (ws : List Cond) (rm : Room) (Pc : Array Value → State → Prop) (Qc : Array Value → State → Outcome → State → Prop) (XC : String → State → State → Prop) (mc ms : Nat) (free : Addr → Prop) : Prop :=
  MetFree l y (headSpec ws rm) Pc (fun _ _ _ _ _ => True) (vx_Q Qc XC mc ms free)
def vx_Post (XC : String → State → State → Prop) (mc ms : Nat) (free : Addr → Prop) : Pt → Array Value → Addr → Pt → Prop := fun A a q B =>
  ∃ (g : JFrame) (mk : MethodId) (t : State) (L : List Loc) (E : String) (ce : Cell), B.U.heap = t.heap ∧ B.U.vm = t.vm ∧ XC E (A.U.calling g mk a) t ∧ t.heap[q]? = some ce ∧ ce.vm = .none ∧ A.U.vm.findClass E = some ce.cls ∧ B.locs = A.locs ++ L ∧ (∀ z ∈ L, free z.base) ∧ B.cells = A.cells + mc ∧ B.slots = A.slots + ms
def vx_Back (l : Launch) (R : Room) (p : Program) (e : Env) (below : List Frame) (s : State) (sargs : Array Value) (y : MethodName) (len W9 : Nat)
    (Pre : Pt → Array Value → Prop) (Post : Pt → Array Value → Option Value → Pt → Prop) (PostX : Pt → Array Value → Addr → Pt → Prop) : Prop :=
  ∀ (m : MethodId) (meth : Method) (c : Code) (A : Pt) (g : JFrame) (ig : Instr) (mk : MethodId) (a : Array Value),
    Stand p l e R s m sargs below meth c A.U A.locs A.cells A.slots → g.method = m → g.locals.size = c.maxLocals → decode c.code g.pc = .ok (ig, len) →
    2 * g.monitorRoom + (g.stack.map fun v => v.category).sum ≤ W9 → A.U.methodNamed? y = some mk → Pre A a →
    (∃ (v : Option Value) (B : Pt), Stand p l e R s m sargs below meth c B.U B.locs B.cells B.slots ∧ Post A a v B ∧
      Steps p.tables e below (doInvoke e (A.U.setTop g) [] mk a).1 (B.U.setTop { g with pc := g.pc + len, stack := v.toList ++ g.stack })) ∨
    (∃ (q : Addr) (B : Pt), Stand p l e R s m sargs below meth c B.U B.locs B.cells B.slots ∧ PostX A a q B ∧
      Steps p.tables e below (doInvoke e (A.U.setTop g) [] mk a).1 ((B.U.setTop g).pushFrame (.throwing q)))
section Payer
variable {l : Launch} {R : Room} {p : Program} {e : Env} {below : List Frame} {s : State} {sargs : Array Value} {y : MethodName} {len W9 : Nat}
theorem vx_back {ws : List Cond} {rm : Room} {Pc : Array Value → State → Prop} {Qc : Array Value → State → Outcome → State → Prop} {XC : String → State → State → Prop} {mc ms : Nat} {free : Addr → Prop} {bytes : ByteArray} {maxL : Nat} {ret : Option FieldType}
    (hM : vx_Met l y ws rm Pc Qc XC mc ms free) (hblind : FrameBlind Pc) (hrc : rm.cells = mc) (hrs : rm.slots = ms)
    (hframes : rm.frames + 1 ≤ R.frames) (hlocals : W9 + (maxL + 11) + rm.locals ≤ R.locals)
    (hws : ∀ w ∈ ws, ∀ a' U, s.WarmedH U.vm → w.before a' U = true) (hcode : Cond.code y bytes maxL ret ∈ ws) (hinit : ∀ a' U, s.WarmedH U.vm → (Cond.initialized y.cls).before a' U = true) :
    vx_Back l R p e below s sargs y len W9 (PreOf R mc ms Pc) (PostOf Qc mc ms free) (vx_Post XC mc ms free) := by
  intro m meth c A g ig mk a X hg hsize hdg hW hn hp
  have h1 : (headSpec ws rm).pre.before a A.U = true := atoms_intro fun w hw => hws w hw _ _ X.warmed
  have h2 : (Cond.code y bytes maxL ret).before a A.U = true := hws _ hcode _ _ X.warmed
  have h3 : (Cond.initialized y.cls).before a A.U = true := hinit _ _ X.warmed
  have h4 : A.cells + (headSpec ws rm).room.cells ≤ R.cells := by rw [show (headSpec ws rm).room.cells = mc from hrc]; exact hp.1
  have h5 : A.slots + (headSpec ws rm).room.slots ≤ R.slots := by rw [show (headSpec ws rm).room.slots = ms from hrs]; exact hp.2.1
  have hPc : Pc a (A.U.calling g mk a) := hblind _ _ _ _ hp.2.2
  obtain ⟨U, Ls, c0, s0⟩ := A
  dsimp only [Pt.U, Pt.locs, Pt.cells, Pt.slots] at h1 h2 h3 h4 h5 X hn hPc ⊢
  obtain ⟨methY, cY, hmY, hcY, -, hlY, -, -, -, -⟩ := Cond.code_spec hn h2
  obtain ⟨kY, hkY, -⟩ := className_of_methodNamed hn
  have hinitY : kY.init = .initialized := Cond.initialized_spec (findClass_of_methodNamed hn) hkY h3
  have h : At U g.method c below := by rw [hg]; exact X.here
  have hlocals9 : W9 + (maxL + 11) + (headSpec ws rm).room.locals ≤ R.locals := hlocals
  have happ : (headSpec ws rm).appliesLoose y e.platform (U.calling g mk a) = true :=
    Spec.appliesLoose_calling (g := g) h hdg hn hkY hinitY
      (X.room_calling (g := g) (R' := (headSpec ws rm).room) hsize hmY hcY hframes (by rw [hlY]; omega) h4 h5) h1
  obtain ⟨mid, hmid⟩ := h.above
  have hfr : (U.setTop g).frames = (.java g :: mid) ++ below := by rw [State.frames_setTop' g h.top, hmid]; rfl
  obtain ⟨o, s₂, hsteps, -, hend, hq⟩ := Steps.callFree hM p X.admits X.cas X.clock (acts := []) hfr happ hPc trivial
  have hq' : vx_Q Qc XC mc ms free a (U.calling g mk a) o s₂ := hq
  rw [State.frames_setTop' g h.top] at hend
  obtain ⟨g₀, hg0⟩ := Option.isSome_iff_exists.mp h.top
  obtain ⟨r, hr⟩ := State.topJava?_eq_some.mp hg0
  have hr' : (({ U with heap := s₂.heap, slotsUsed := s₂.slotsUsed } : State).setVm s₂.vm).frames = .java g₀ :: r := hr
  rcases hq' with ⟨hqc, L, hfe, hL⟩ | ⟨q, rfl, E, ce, L, hx, hce, hcv, hcl, hW₂, hsm, hL⟩
  · obtain ⟨⟨v, rfl⟩, hW₂, e2, q2, q3, q4, q5, q6⟩ := id hfe
    have e3 : s₂ = ({ (U.calling g mk a).setFrames s₂.frames with heap := s₂.heap, slotsUsed := s₂.slotsUsed } : State).setVm s₂.vm := by
      have : s₂ = ({ s₂ with vm := (U.calling g mk a).vm } : State).setVm s₂.vm := rfl
      rw [e2] at this
      exact this
    obtain ⟨c₂, i₂, len₂, hc₂, hd₂, hf₂⟩ := hend
    have hW' : U.WarmedH s₂.vm := hW₂
    have hcc : c₂ = c := by
      have h1 : s₂.code? g.method = U.code? g.method := by
        rw [State.code?_eq, State.code?_eq, hW'.alike.method?]
      exact Option.some.inj (hc₂.symm.trans (h1.trans h.code))
    subst hcc
    have hlen : len₂ = len := by rw [hdg] at hd₂; cases hd₂; rfl
    subst hlen
    have hs₂ : s₂ = (({ U with heap := s₂.heap, slotsUsed := s₂.slotsUsed } : State).setVm s₂.vm).setTop { g with pc := g.pc + len₂, stack := v.toList ++ g.stack } := by
      refine e3.trans ?_
      rw [hf₂, State.calling_eq h.top, State.setFrames_setFrames, State.setTop_of_frames _ hr', hr]
      rfl
    have hsame : U.sameButNew ({ U with heap := s₂.heap, slotsUsed := s₂.slotsUsed } : State) L mc ms := by
      refine ⟨?_, q2, q3, q4, q5, q6⟩
      obtain ⟨t, ht, -⟩ := State.frames_cons hr
      show ({ U with heap := s₂.heap, slotsUsed := s₂.slotsUsed } : State) = { U.setFrames U.frames with heap := s₂.heap, slotsUsed := s₂.slotsUsed }
      rw [State.setFrames_self ht]
    subst hg
    refine Or.inl ⟨v, ⟨(({ U with heap := s₂.heap, slotsUsed := s₂.slotsUsed } : State).setVm s₂.vm), Ls ++ L, c0 + mc, s0 + ms⟩,
      ⟨X.admits, X.cas, X.clock, X.frames, X.room, X.hears, X.method, X.code, (X.here.setHeapUsed s₂.heap s₂.slotsUsed).setVm hW'.alike, X.tail, State.WarmedH.trans X.warmed hW', X.limits, X.bytes, X.same.trans (hsame.setVm s.vm)⟩,
      ⟨g, mk, s₂, L, rfl, rfl, hqc, rfl, hL, rfl, rfl⟩, ?_⟩
    show Steps p.tables e below _ ((({ U with heap := s₂.heap, slotsUsed := s₂.slotsUsed } : State).setVm s₂.vm).setTop { g with pc := g.pc + len₂, stack := v.toList ++ g.stack })
    rw [← hs₂]
    exact hsteps
  · obtain ⟨e2, q2, q3, q4, q5, q6⟩ := id hsm
    have e3 : s₂ = ({ (U.calling g mk a).setFrames s₂.frames with heap := s₂.heap, slotsUsed := s₂.slotsUsed } : State).setVm s₂.vm := by
      have : s₂ = ({ s₂ with vm := (U.calling g mk a).vm } : State).setVm s₂.vm := rfl
      rw [e2] at this
      exact this
    have hf₂ : s₂.frames = .throwing q :: .java g :: U.frames.tail := hend
    have hW' : U.WarmedH s₂.vm := hW₂
    have hs₂ : s₂ = ((({ U with heap := s₂.heap, slotsUsed := s₂.slotsUsed } : State).setVm s₂.vm).setTop g).pushFrame (.throwing q) := by
      refine e3.trans ?_
      rw [hf₂, State.calling_eq h.top, State.setFrames_setFrames, State.pushFrame, State.frames_setTop _ hr', State.setTop_of_frames _ hr', State.setFrames_setFrames, hr]
      rfl
    have hsame : U.sameButNew ({ U with heap := s₂.heap, slotsUsed := s₂.slotsUsed } : State) L mc ms := by
      refine ⟨?_, q2, q3, q4, q5, q6⟩
      obtain ⟨t, ht, -⟩ := State.frames_cons hr
      show ({ U with heap := s₂.heap, slotsUsed := s₂.slotsUsed } : State) = { U.setFrames U.frames with heap := s₂.heap, slotsUsed := s₂.slotsUsed }
      rw [State.setFrames_self ht]
    subst hg
    refine Or.inr ⟨q, ⟨(({ U with heap := s₂.heap, slotsUsed := s₂.slotsUsed } : State).setVm s₂.vm), Ls ++ L, c0 + mc, s0 + ms⟩,
      ⟨X.admits, X.cas, X.clock, X.frames, X.room, X.hears, X.method, X.code, (X.here.setHeapUsed s₂.heap s₂.slotsUsed).setVm hW'.alike, X.tail, State.WarmedH.trans X.warmed hW', X.limits, X.bytes, X.same.trans (hsame.setVm s.vm)⟩,
      ⟨g, mk, s₂, L, E, ce, rfl, rfl, hx, hce, hcv, hcl, rfl, hL, rfl, rfl⟩, ?_⟩
    show Steps p.tables e below _ (((({ U with heap := s₂.heap, slotsUsed := s₂.slotsUsed } : State).setVm s₂.vm).setTop g).pushFrame (.throwing q))
    rw [← hs₂]
    exact hsteps
end Payer
section Calls
variable {p : Program} {l : Launch} {e : Env} {R : Room} {s : State} {m : MethodId} {args : Array Value} {below : List Frame} {meth : Method} {c : Code} {T : State} {locs : List Loc} {cells slots : Nat}
theorem vx_callV (X : Stand p l e R s m args below meth c T locs cells slots) (hexec : p.tables.exec = Jvm.exec) {own C : String} {index : Nat} {y : MethodName} {bytes : ByteArray} {maxL : Nat} {ret : Option FieldType}
    (hown : s.vm.findClass own = some m.cls) (hlink : (Cond.methodLink own index y).before args s = true) (hinst : (Cond.instanceMethod y).before args s = true) (hsel : (Cond.selects C y y).before args s = true)
    (hcode : (Cond.code y bytes maxL ret).before args s = true) (hy : y.cls ≠ "java/lang/invoke/MethodHandle" ∧ y.cls ≠ "java/lang/invoke/VarHandle")
    {W9 : Nat} {Pre : Pt → Array Value → Prop} {Post : Pt → Array Value → Option Value → Pt → Prop} {PostX : Pt → Array Value → Addr → Pt → Prop} (hK : vx_Back l R p e below s args y 3 W9 Pre Post PostX)
    {b : Addr} {cellB : Cell} (hcell : T.heap[b]? = some cellB) (hobj : cellB.vm.isStatics = false) (hcls : s.vm.findClass C = some cellB.cls)
    {g : JFrame} (hg : g.method = m) (hsize : g.locals.size = c.maxLocals) {argsL rest : List Value} (hlen : ∀ sig, parseMethodDescriptor y.desc = some sig → argsL.length = sig.parameters.length)
    (hstack : g.stack = argsL.reverse ++ .ref b :: rest) (hW : 2 * g.monitorRoom + (rest.map fun v => v.category).sum ≤ W9) (hdg : decode c.code g.pc = .ok (.invokevirtual index, 3))
    (hpre : ∀ vm₁, s.WarmedH vm₁ → Pre ⟨T.setVm vm₁, locs, cells, slots⟩ (Value.ref b :: argsL).toArray) :
    (∃ (v : Option Value) (vm₁ : Vm) (B : Pt), s.WarmedH vm₁ ∧ Stand p l e R s m args below meth c B.U B.locs B.cells B.slots ∧ Post ⟨T.setVm vm₁, locs, cells, slots⟩ (Value.ref b :: argsL).toArray v B ∧
      ∀ target, Steps p.tables e below (B.U.setTop { g with pc := g.pc + 3, stack := v.toList ++ rest }) target → Steps p.tables e below (T.setTop g) target) ∨
    (∃ (q : Addr) (vm₁ : Vm) (B : Pt), s.WarmedH vm₁ ∧ Stand p l e R s m args below meth c B.U B.locs B.cells B.slots ∧ PostX ⟨T.setVm vm₁, locs, cells, slots⟩ (Value.ref b :: argsL).toArray q B ∧
      Steps p.tables e below (T.setTop g) ((B.U.setTop { g with stack := rest }).pushFrame (.throwing q))) := by
  obtain ⟨mk, methM, hnamed, hmethM, hstM, habM⟩ := Cond.instanceMethod_spec hinst
  obtain ⟨methM', cM, hmethM', -, -, -, -, -, -, hsigM⟩ := Cond.code_spec hnamed hcode
  cases hmethM.symm.trans hmethM'
  obtain ⟨c2, r2, m2, q1, q2, q3, q4, kP, hkP, hkPi⟩ := Cond.selects_spec hsel
  cases hcls.symm.trans q1
  cases (State.methodFound?_of_named hnamed hy).symm.trans q2
  cases hnamed.symm.trans q3
  have hselP : selectMethod e.platform s.vm cellB.cls mk = .method mk := by rw [Launch.admits_selectMethod X.admits]; exact q4
  obtain ⟨vm₁, X₁, hstep₁⟩ := X.invokevirtual hexec hown hlink hnamed hmethM hstM hkP hkPi hy (a := b) (cell := cellB) hcell
    (fun z h => by rw [h] at hobj; cases hobj) hselP hmethM habM hkP hkPi (g := g) hg (argsL := argsL) (rest := rest) (hlen _ hsigM) hstack hdg
  rcases hK m meth c ⟨T.setVm vm₁, locs, cells, slots⟩ { g with stack := rest } (.invokevirtual index) mk (Value.ref b :: argsL).toArray X₁ hg hsize hdg hW (X₁.named hnamed) (hpre vm₁ X₁.warmed) with ⟨v, B, X', hpost, hsteps⟩ | ⟨q, B, X', hpost, hsteps⟩
  · exact Or.inl ⟨v, vm₁, B, X₁.warmed, X', hpost, fun target h => hstep₁ _ fun acts => by rw [doInvoke_state]; exact hsteps.trans h⟩
  · exact Or.inr ⟨q, vm₁, B, X₁.warmed, X', hpost, hstep₁ _ fun acts => by rw [doInvoke_state]; exact hsteps⟩
theorem vx_callS (X : Stand p l e R s m args below meth c T locs cells slots) (hexec : p.tables.exec = Jvm.exec) {own : String} {index : Nat} {y : MethodName} {bytes : ByteArray} {maxL : Nat} {ret : Option FieldType}
    (hown : s.vm.findClass own = some m.cls) (hlink : (Cond.methodLink own index y).before args s = true) (hstat : (Cond.static y).before args s = true) (hinit : (Cond.initialized y.cls).before args s = true)
    (hcode : (Cond.code y bytes maxL ret).before args s = true) (hy : y.cls ≠ "java/lang/invoke/MethodHandle" ∧ y.cls ≠ "java/lang/invoke/VarHandle")
    {W9 : Nat} {Pre : Pt → Array Value → Prop} {Post : Pt → Array Value → Option Value → Pt → Prop} {PostX : Pt → Array Value → Addr → Pt → Prop} (hK : vx_Back l R p e below s args y 3 W9 Pre Post PostX)
    {g : JFrame} (hg : g.method = m) (hsize : g.locals.size = c.maxLocals) {argsL rest : List Value} (hlen : ∀ sig, parseMethodDescriptor y.desc = some sig → argsL.length = sig.parameters.length)
    (hstack : g.stack = argsL.reverse ++ rest) (hW : 2 * g.monitorRoom + (rest.map fun v => v.category).sum ≤ W9) (hdg : decode c.code g.pc = .ok (.invokestatic index, 3))
    (hpre : ∀ vm₁, s.WarmedH vm₁ → Pre ⟨T.setVm vm₁, locs, cells, slots⟩ argsL.toArray) :
    (∃ (v : Option Value) (vm₁ : Vm) (B : Pt), s.WarmedH vm₁ ∧ Stand p l e R s m args below meth c B.U B.locs B.cells B.slots ∧ Post ⟨T.setVm vm₁, locs, cells, slots⟩ argsL.toArray v B ∧
      ∀ target, Steps p.tables e below (B.U.setTop { g with pc := g.pc + 3, stack := v.toList ++ rest }) target → Steps p.tables e below (T.setTop g) target) ∨
    (∃ (q : Addr) (vm₁ : Vm) (B : Pt), s.WarmedH vm₁ ∧ Stand p l e R s m args below meth c B.U B.locs B.cells B.slots ∧ PostX ⟨T.setVm vm₁, locs, cells, slots⟩ argsL.toArray q B ∧
      Steps p.tables e below (T.setTop g) ((B.U.setTop { g with stack := rest }).pushFrame (.throwing q))) := by
  obtain ⟨mk, hnamed⟩ := Cond.code_named hcode
  obtain ⟨methM, cM, hmethM, -, -, -, -, -, -, hsigM⟩ := Cond.code_spec hnamed hcode
  have hstatic : methM.isStatic = true := Cond.static_spec hnamed hmethM hstat
  obtain ⟨kP, hkP, -⟩ := className_of_methodNamed hnamed
  have hinitP : kP.init = .initialized := Cond.initialized_spec (findClass_of_methodNamed hnamed) hkP hinit
  obtain ⟨vm₁, X₁, hstep₁⟩ := X.invokestatic hexec hown hlink hnamed hmethM hstatic hkP hinitP hy (g := g) hg (argsL := argsL) (rest := rest) (hlen _ hsigM) hstack hdg
  rcases hK m meth c ⟨T.setVm vm₁, locs, cells, slots⟩ { g with stack := rest } (.invokestatic index) mk argsL.toArray X₁ hg hsize hdg hW (X₁.named hnamed) (hpre vm₁ X₁.warmed) with ⟨v, B, X', hpost, hsteps⟩ | ⟨q, B, X', hpost, hsteps⟩
  · exact Or.inl ⟨v, vm₁, B, X₁.warmed, X', hpost, fun target h => hstep₁ _ fun acts => by rw [doInvoke_state]; exact hsteps.trans h⟩
  · exact Or.inr ⟨q, vm₁, B, X₁.warmed, X', hpost, hstep₁ _ fun acts => by rw [doInvoke_state]; exact hsteps⟩
end Calls
theorem vx_cls {s : State} {T : State} {vm₁ : Vm} {E : String} {k : ClassId} (hW : s.WarmedH vm₁) (h : (T.setVm vm₁).vm.findClass E = some k) : s.vm.findClass E = some k := by
  have h1 : vm₁.findClass E = some k := h
  rw [hW.alike.findClass] at h1
  exact h1
/-- the method's frame g, with q thrown over it -/
def vx_W (p : Program) (l : Launch) (e : Env) (R : Room) (s : State) (m : MethodId) (args : Array Value) (below : List Frame) (meth : Method) (c : Code) (H : Heap) (locs : List Loc) (cells slots : Nat) (Q : State → Prop) (g : JFrame) (q : Addr) : Prop :=
  ∀ T : State, T.heap = H → Stand p l e R s m args below meth c T locs cells slots → ∃ t, Steps p.tables e below ((T.setTop g).pushFrame (.throwing q)) t ∧ Q t
def vx_Run (p : Program) (l : Launch) (e : Env) (R : Room) (s : State) (m : MethodId) (args : Array Value) (below : List Frame) (meth : Method) (c : Code) (H : Heap) (locs : List Loc) (cells slots mc ms : Nat) (g : JFrame) (rest : List Value) (Qa : State → Outcome → State → Prop) (XC : String → State → State → Prop) (free : Addr → Prop) : Prop :=
  ∀ T : State, T.heap = H → Stand p l e R s m args below meth c T locs cells slots →
    (∃ (v : Option Value) (st₀ t T' : State) (L : List Loc), st₀.heap = H ∧ Stand p l e R s m args below meth c T' (locs ++ L) (cells + mc) (slots + ms) ∧ (∀ q ∈ L, free q.base) ∧ T'.heap = t.heap ∧ T'.vm = t.vm ∧ Qa st₀ (.returned v) t ∧
      Goes p e below T g T' { g with pc := g.pc + 3, stack := v.toList ++ rest }) ∨
    (∃ (q : Addr) (st₀ t T' : State) (L : List Loc) (E : String) (ce : Cell), st₀.heap = H ∧ Stand p l e R s m args below meth c T' (locs ++ L) (cells + mc) (slots + ms) ∧ (∀ z ∈ L, free z.base) ∧ T'.heap = t.heap ∧ T'.vm = t.vm ∧ XC E st₀ t ∧ t.heap[q]? = some ce ∧ ce.vm = .none ∧ s.vm.findClass E = some ce.cls ∧
      Steps p.tables e below (T.setTop g) ((T'.setTop { g with stack := rest }).pushFrame (.throwing q)))
def vx_X {S : Type} (px : S → Prop) (B : String → S → State → Prop) (A : Nat → Prop) : String → State → State → Prop := fun E st t => ∃ u : S, px u ∧ B E u t ∧ va_F A st t
section Runs
variable {p : Program} {l : Launch} {e : Env} {R : Room} {s : State} {m : MethodId} {args : Array Value} {below : List Frame} {meth : Method} {c : Code} {H : Heap} {locs : List Loc} {cells slots : Nat}
variable {y : MethodName} {bytes cc : ByteArray} {maxL nL mc ms n index : Nat} {ret : Option FieldType} {ws : List Cond} {rm : Room} {Pc : Array Value → State → Prop} {Qc : Array Value → State → Outcome → State → Prop} {XC : String → State → State → Prop} {free : Addr → Prop} {Ts : List Cond} {own C : String} {b : Addr} {As rest : List Value} {g : JFrame}
theorem vx_callBack (cb : CallB R s args own index y bytes maxL ret ws rm mc ms n) (hM : vx_Met l y ws rm Pc Qc XC mc ms free) (hbl : FrameBlind Pc) : vx_Back l R p e below s args y 3 8 (PreOf R mc ms Pc) (PostOf Qc mc ms free) (vx_Post XC mc ms free) := by
  obtain ⟨hrc, hrs, hfr, hlo, hws, hcw, -, hini, -⟩ := cb
  exact vx_back (bytes := bytes) (maxL := maxL) (ret := ret) hM hbl hrc hrs hfr hlo hws hcw (fun a' U hW => word_at hW (Or.inl (by first | rfl | simp [Cond.onTables, Cond.keeps, Cond.steady])) hini)
theorem vx_runV (S : CallFix p m c cc nL s args Ts own) (hM : vx_Met l y ws rm Pc Qc XC mc ms free) (cw : CallW R s args own C index y bytes maxL ret ws rm mc ms n) (hp : PreV s H C b Pc As)
    (hg : g.method = m) (hn : As.length = n) (hsize : g.locals.size = nL) (hstack : g.stack = As.reverse ++ .ref b :: rest) (hW : 2 * g.monitorRoom + (rest.map fun v => v.category).sum ≤ 8) (hdg : decode cc g.pc = .ok (.invokevirtual index, 3)) (hf : cells + mc ≤ R.cells ∧ slots + ms ≤ R.slots) :
    vx_Run p l e R s m args below meth c H locs cells slots mc ms g rest (Qc (Value.ref b :: As).toArray) XC free := by
  have hK : vx_Back l R p e below s args y 3 8 (PreOf R mc ms Pc) (PostOf Qc mc ms free) (vx_Post XC mc ms free) := vx_callBack cw.1 hM hp.1
  obtain ⟨⟨-, -, -, -, -, -, hcode, -, hy, hlen, hl⟩, hin, hse⟩ := cw
  obtain ⟨hx, hb, hml, ho, -⟩ := S
  obtain ⟨-, ⟨cellB, hcB, hoB, hclB⟩, hPc⟩ := hp
  intro T hT X
  rcases vx_callV X hx (C := C) (bytes := bytes) (maxL := maxL) (ret := ret) ho hl hin hse hcode hy hK (by rw [hT]; exact hcB) hoB hclB hg (hsize.trans hml.symm) (argsL := As) (rest := rest) (fun sig h => hn.trans (hlen sig h)) hstack hW (by rw [hb]; exact hdg)
    (fun vm₁ hW₁ => ⟨hf.1, hf.2, hPc (T.setVm vm₁) hT hW₁⟩) with ⟨v, vm₁, ⟨U', l2, c2, s2⟩, hW₁, X', ⟨g', mk, t, L, e1, e2, hq, h1, hL, h2, h3⟩, st⟩ | ⟨q, vm₁, ⟨U', l2, c2, s2⟩, hW₁, X', ⟨g', mk, t, L, E, ce, e1, e2, hq, hce, hcv, hcl, h1, hL, h2, h3⟩, st⟩
  · dsimp only [Pt.U, Pt.locs, Pt.cells, Pt.slots] at X' e1 e2 h1 h2 h3 st
    subst h1; subst h2; subst h3
    exact Or.inl ⟨v, (T.setVm vm₁).calling g' mk (Value.ref b :: As).toArray, t, U', L, hT, X', hL, e1, e2, hq, st⟩
  · dsimp only [Pt.U, Pt.locs, Pt.cells, Pt.slots] at X' e1 e2 h1 h2 h3 st hcl
    subst h1; subst h2; subst h3
    exact Or.inr ⟨q, (T.setVm vm₁).calling g' mk (Value.ref b :: As).toArray, t, U', L, E, ce, hT, X', hL, e1, e2, hq, hce, hcv, vx_cls hW₁ hcl, st⟩
theorem vx_runS (S : CallFix p m c cc nL s args Ts own) (hM : vx_Met l y ws rm Pc Qc XC mc ms free) (cw : CallB R s args own index y bytes maxL ret ws rm mc ms n ∧ (Cond.static y).before args s = true) (hp : PreS s H Pc As)
    (hg : g.method = m) (hn : As.length = n) (hsize : g.locals.size = nL) (hstack : g.stack = As.reverse ++ rest) (hW : 2 * g.monitorRoom + (rest.map fun v => v.category).sum ≤ 8) (hdg : decode cc g.pc = .ok (.invokestatic index, 3)) (hf : cells + mc ≤ R.cells ∧ slots + ms ≤ R.slots) :
    vx_Run p l e R s m args below meth c H locs cells slots mc ms g rest (Qc As.toArray) XC free := by
  have hK : vx_Back l R p e below s args y 3 8 (PreOf R mc ms Pc) (PostOf Qc mc ms free) (vx_Post XC mc ms free) := vx_callBack cw.1 hM hp.1
  obtain ⟨⟨-, -, -, -, -, -, hcode, hini, hy, hlen, hl⟩, hstt⟩ := cw
  obtain ⟨hx, hb, hml, ho, -⟩ := S
  intro T hT X
  rcases vx_callS X hx (bytes := bytes) (maxL := maxL) (ret := ret) ho hl hstt hini hcode hy hK hg (hsize.trans hml.symm) (argsL := As) (rest := rest) (fun sig h => hn.trans (hlen sig h)) hstack hW (by rw [hb]; exact hdg)
    (fun vm₁ hW₁ => ⟨hf.1, hf.2, hp.2 (T.setVm vm₁) hT hW₁⟩) with ⟨v, vm₁, ⟨U', l2, c2, s2⟩, hW₁, X', ⟨g', mk, t, L, e1, e2, hq, h1, hL, h2, h3⟩, st⟩ | ⟨q, vm₁, ⟨U', l2, c2, s2⟩, hW₁, X', ⟨g', mk, t, L, E, ce, e1, e2, hq, hce, hcv, hcl, h1, hL, h2, h3⟩, st⟩
  · dsimp only [Pt.U, Pt.locs, Pt.cells, Pt.slots] at X' e1 e2 h1 h2 h3 st
    subst h1; subst h2; subst h3
    exact Or.inl ⟨v, (T.setVm vm₁).calling g' mk As.toArray, t, U', L, hT, X', hL, e1, e2, hq, st⟩
  · dsimp only [Pt.U, Pt.locs, Pt.cells, Pt.slots] at X' e1 e2 h1 h2 h3 st hcl
    subst h1; subst h2; subst h3
    exact Or.inr ⟨q, (T.setVm vm₁).calling g' mk As.toArray, t, U', L, E, ce, hT, X', hL, e1, e2, hq, hce, hcv, vx_cls hW₁ hcl, st⟩
end Runs
section Rows
variable {p : Program} {l : Launch} {e : Env} {R : Room} {s : State} {m : MethodId} {args : Array Value} {below : List Frame} {meth : Method} {c : Code} {H : Heap} {locs : List Loc} {cells slots : Nat} {Q : State → Prop}
variable {mc ms : Nat} {free : Addr → Prop} {A0 A1 : Nat → Prop} {H0 : Heap} {a : Array Value} {pc : Nat} {ls : Array Slot} {st0 rest : List Value}
theorem vx_keep {st₀ t T' : State} {L : List Loc} (h0 : st₀.heap = H) (e1 : T'.heap = t.heap) (hS : va_S A0 H0 H locs) (hA : ∀ q, q < H.size → A1 q → A0 q) (hf : ∀ q, free q → A0 q) (hL : ∀ q ∈ L, free q.base) (hF : va_F A1 st₀ t) :
    H.size ≤ T'.heap.size ∧ (∀ q : Nat, q < H.size → ¬ A1 q → T'.heap[q]? = H[q]?) ∧ va_S A0 H0 T'.heap (locs ++ L) := by
  obtain ⟨hz, hk⟩ := hF
  rw [h0] at hz hk
  exact ⟨by rw [e1]; exact hz, fun q h1 h2 => by rw [e1]; exact hk q h1 h2,
    ⟨Nat.le_trans hS.1 (by rw [e1]; exact hz), fun q h1 h2 => by rw [e1, hk q (Nat.lt_of_lt_of_le h1 hS.1) (fun z => h2 (hA q (Nat.lt_of_lt_of_le h1 hS.1) z))]; exact hS.2.1 q h1 h2, fun q hq => by
      rcases List.mem_append.mp hq with h | h
      · exact hS.2.2 q h
      · exact hf _ (hL q h)⟩⟩
theorem vx_calli {S SX : Type} {post : Int32 → S → Prop} {px : SX → Prop} {B : S → State → Prop} {BX : String → SX → State → Prop} {AX : Nat → Prop} (hr : vx_Run p l e R s m args below meth c H locs cells slots mc ms (F0 m pc ls st0) rest (va_Qi post B A1 a) (vx_X px BX AX) free) (hS : va_S A0 H0 H locs) (hA : ∀ q, q < H.size → A1 q → A0 q) (hf : ∀ q, free q → A0 q) (hAX : ∀ q, q < H.size → AX q → A0 q)
    (kx : ∀ (E : String) (ce : Cell) (q9 : Addr) (u : SX) (t : State) (H1 : Heap) (locs1 : List Loc), t.heap = H1 → s.vm.Alike t.vm → px u → BX E u t → H.size ≤ H1.size → (∀ q : Nat, q < H.size → ¬ AX q → H1[q]? = H[q]?) → va_S A0 H0 H1 locs1 → H1[q9]? = some ce → ce.vm = .none → s.vm.findClass E = some ce.cls → vx_W p l e R s m args below meth c H1 locs1 (cells + mc) (slots + ms) Q (F0 m pc ls rest) q9)
    (kk : ∀ (r : Int32) (u : S) (t : State) (H1 : Heap) (locs1 : List Loc), t.heap = H1 → s.vm.Alike t.vm → post r u → B u t → H.size ≤ H1.size → (∀ q : Nat, q < H.size → ¬ A1 q → H1[q]? = H[q]?) → va_S A0 H0 H1 locs1 → W p l e R s m args below meth c H1 locs1 (cells + mc) (slots + ms) Q (F0 m (pc + 3) ls (.int r :: rest))) : W p l e R s m args below meth c H locs cells slots Q (F0 m pc ls st0) := by
  intro T hT X
  rcases hr T hT X with ⟨v, st₀, t, T', L, h0, X', hL, e1, e2, ⟨⟨r, u, hv, hp, hb⟩, hF⟩, st⟩ | ⟨q, st₀, t, T', L, E, ce, h0, X', hL, e1, e2, ⟨u, hp, hb, hF⟩, hce, hcv, hcl, st⟩
  · cases hv
    obtain ⟨k1, k2, k3⟩ := vx_keep h0 e1 hS hA hf hL hF
    obtain ⟨t2, a1, b1⟩ := kk r u t T'.heap (locs ++ L) e1.symm (by rw [← e2]; exact X'.warmed.alike) hp hb k1 k2 k3 T' rfl X'
    exact ⟨t2, st t2 a1, b1⟩
  · obtain ⟨k1, k2, k3⟩ := vx_keep h0 e1 hS hAX hf hL hF
    obtain ⟨t2, a1, b1⟩ := kx E ce q u t T'.heap (locs ++ L) e1.symm (by rw [← e2]; exact X'.warmed.alike) hp hb k1 k2 k3 (by rw [e1]; exact hce) hcv hcl T' rfl X'
    exact ⟨t2, st.trans a1, b1⟩
theorem vx_calll {S SX : Type} {post : Int64 → S → Prop} {px : SX → Prop} {B : S → State → Prop} {BX : String → SX → State → Prop} {AX : Nat → Prop} (hr : vx_Run p l e R s m args below meth c H locs cells slots mc ms (F0 m pc ls st0) rest (va_Ql post B A1 a) (vx_X px BX AX) free) (hS : va_S A0 H0 H locs) (hA : ∀ q, q < H.size → A1 q → A0 q) (hf : ∀ q, free q → A0 q) (hAX : ∀ q, q < H.size → AX q → A0 q)
    (kx : ∀ (E : String) (ce : Cell) (q9 : Addr) (u : SX) (t : State) (H1 : Heap) (locs1 : List Loc), t.heap = H1 → s.vm.Alike t.vm → px u → BX E u t → H.size ≤ H1.size → (∀ q : Nat, q < H.size → ¬ AX q → H1[q]? = H[q]?) → va_S A0 H0 H1 locs1 → H1[q9]? = some ce → ce.vm = .none → s.vm.findClass E = some ce.cls → vx_W p l e R s m args below meth c H1 locs1 (cells + mc) (slots + ms) Q (F0 m pc ls rest) q9)
    (kk : ∀ (r : Int64) (u : S) (t : State) (H1 : Heap) (locs1 : List Loc), t.heap = H1 → s.vm.Alike t.vm → post r u → B u t → H.size ≤ H1.size → (∀ q : Nat, q < H.size → ¬ A1 q → H1[q]? = H[q]?) → va_S A0 H0 H1 locs1 → W p l e R s m args below meth c H1 locs1 (cells + mc) (slots + ms) Q (F0 m (pc + 3) ls (.long r :: rest))) : W p l e R s m args below meth c H locs cells slots Q (F0 m pc ls st0) := by
  intro T hT X
  rcases hr T hT X with ⟨v, st₀, t, T', L, h0, X', hL, e1, e2, ⟨⟨r, u, hv, hp, hb⟩, hF⟩, st⟩ | ⟨q, st₀, t, T', L, E, ce, h0, X', hL, e1, e2, ⟨u, hp, hb, hF⟩, hce, hcv, hcl, st⟩
  · cases hv
    obtain ⟨k1, k2, k3⟩ := vx_keep h0 e1 hS hA hf hL hF
    obtain ⟨t2, a1, b1⟩ := kk r u t T'.heap (locs ++ L) e1.symm (by rw [← e2]; exact X'.warmed.alike) hp hb k1 k2 k3 T' rfl X'
    exact ⟨t2, st t2 a1, b1⟩
  · obtain ⟨k1, k2, k3⟩ := vx_keep h0 e1 hS hAX hf hL hF
    obtain ⟨t2, a1, b1⟩ := kx E ce q u t T'.heap (locs ++ L) e1.symm (by rw [← e2]; exact X'.warmed.alike) hp hb k1 k2 k3 (by rw [e1]; exact hce) hcv hcl T' rfl X'
    exact ⟨t2, st.trans a1, b1⟩
theorem vx_callf {S SX : Type} {post : UInt32 → S → Prop} {px : SX → Prop} {B : S → State → Prop} {BX : String → SX → State → Prop} {AX : Nat → Prop} (hr : vx_Run p l e R s m args below meth c H locs cells slots mc ms (F0 m pc ls st0) rest (va_Qf post B A1 a) (vx_X px BX AX) free) (hS : va_S A0 H0 H locs) (hA : ∀ q, q < H.size → A1 q → A0 q) (hf : ∀ q, free q → A0 q) (hAX : ∀ q, q < H.size → AX q → A0 q)
    (kx : ∀ (E : String) (ce : Cell) (q9 : Addr) (u : SX) (t : State) (H1 : Heap) (locs1 : List Loc), t.heap = H1 → s.vm.Alike t.vm → px u → BX E u t → H.size ≤ H1.size → (∀ q : Nat, q < H.size → ¬ AX q → H1[q]? = H[q]?) → va_S A0 H0 H1 locs1 → H1[q9]? = some ce → ce.vm = .none → s.vm.findClass E = some ce.cls → vx_W p l e R s m args below meth c H1 locs1 (cells + mc) (slots + ms) Q (F0 m pc ls rest) q9)
    (kk : ∀ (r : UInt32) (u : S) (t : State) (H1 : Heap) (locs1 : List Loc), t.heap = H1 → s.vm.Alike t.vm → post r u → B u t → H.size ≤ H1.size → (∀ q : Nat, q < H.size → ¬ A1 q → H1[q]? = H[q]?) → va_S A0 H0 H1 locs1 → W p l e R s m args below meth c H1 locs1 (cells + mc) (slots + ms) Q (F0 m (pc + 3) ls (.float r :: rest))) : W p l e R s m args below meth c H locs cells slots Q (F0 m pc ls st0) := by
  intro T hT X
  rcases hr T hT X with ⟨v, st₀, t, T', L, h0, X', hL, e1, e2, ⟨⟨r, u, hv, hp, hb⟩, hF⟩, st⟩ | ⟨q, st₀, t, T', L, E, ce, h0, X', hL, e1, e2, ⟨u, hp, hb, hF⟩, hce, hcv, hcl, st⟩
  · cases hv
    obtain ⟨k1, k2, k3⟩ := vx_keep h0 e1 hS hA hf hL hF
    obtain ⟨t2, a1, b1⟩ := kk r u t T'.heap (locs ++ L) e1.symm (by rw [← e2]; exact X'.warmed.alike) hp hb k1 k2 k3 T' rfl X'
    exact ⟨t2, st t2 a1, b1⟩
  · obtain ⟨k1, k2, k3⟩ := vx_keep h0 e1 hS hAX hf hL hF
    obtain ⟨t2, a1, b1⟩ := kx E ce q u t T'.heap (locs ++ L) e1.symm (by rw [← e2]; exact X'.warmed.alike) hp hb k1 k2 k3 (by rw [e1]; exact hce) hcv hcl T' rfl X'
    exact ⟨t2, st.trans a1, b1⟩
theorem vx_calld {S SX : Type} {post : UInt64 → S → Prop} {px : SX → Prop} {B : S → State → Prop} {BX : String → SX → State → Prop} {AX : Nat → Prop} (hr : vx_Run p l e R s m args below meth c H locs cells slots mc ms (F0 m pc ls st0) rest (va_Qd post B A1 a) (vx_X px BX AX) free) (hS : va_S A0 H0 H locs) (hA : ∀ q, q < H.size → A1 q → A0 q) (hf : ∀ q, free q → A0 q) (hAX : ∀ q, q < H.size → AX q → A0 q)
    (kx : ∀ (E : String) (ce : Cell) (q9 : Addr) (u : SX) (t : State) (H1 : Heap) (locs1 : List Loc), t.heap = H1 → s.vm.Alike t.vm → px u → BX E u t → H.size ≤ H1.size → (∀ q : Nat, q < H.size → ¬ AX q → H1[q]? = H[q]?) → va_S A0 H0 H1 locs1 → H1[q9]? = some ce → ce.vm = .none → s.vm.findClass E = some ce.cls → vx_W p l e R s m args below meth c H1 locs1 (cells + mc) (slots + ms) Q (F0 m pc ls rest) q9)
    (kk : ∀ (r : UInt64) (u : S) (t : State) (H1 : Heap) (locs1 : List Loc), t.heap = H1 → s.vm.Alike t.vm → post r u → B u t → H.size ≤ H1.size → (∀ q : Nat, q < H.size → ¬ A1 q → H1[q]? = H[q]?) → va_S A0 H0 H1 locs1 → W p l e R s m args below meth c H1 locs1 (cells + mc) (slots + ms) Q (F0 m (pc + 3) ls (.double r :: rest))) : W p l e R s m args below meth c H locs cells slots Q (F0 m pc ls st0) := by
  intro T hT X
  rcases hr T hT X with ⟨v, st₀, t, T', L, h0, X', hL, e1, e2, ⟨⟨r, u, hv, hp, hb⟩, hF⟩, st⟩ | ⟨q, st₀, t, T', L, E, ce, h0, X', hL, e1, e2, ⟨u, hp, hb, hF⟩, hce, hcv, hcl, st⟩
  · cases hv
    obtain ⟨k1, k2, k3⟩ := vx_keep h0 e1 hS hA hf hL hF
    obtain ⟨t2, a1, b1⟩ := kk r u t T'.heap (locs ++ L) e1.symm (by rw [← e2]; exact X'.warmed.alike) hp hb k1 k2 k3 T' rfl X'
    exact ⟨t2, st t2 a1, b1⟩
  · obtain ⟨k1, k2, k3⟩ := vx_keep h0 e1 hS hAX hf hL hF
    obtain ⟨t2, a1, b1⟩ := kx E ce q u t T'.heap (locs ++ L) e1.symm (by rw [← e2]; exact X'.warmed.alike) hp hb k1 k2 k3 (by rw [e1]; exact hce) hcv hcl T' rfl X'
    exact ⟨t2, st.trans a1, b1⟩
theorem vx_callv {S SX : Type} {post : S → Prop} {px : SX → Prop} {B : S → State → Prop} {BX : String → SX → State → Prop} {AX : Nat → Prop} (hr : vx_Run p l e R s m args below meth c H locs cells slots mc ms (F0 m pc ls st0) rest (va_Qv post B A1 a) (vx_X px BX AX) free) (hS : va_S A0 H0 H locs) (hA : ∀ q, q < H.size → A1 q → A0 q) (hf : ∀ q, free q → A0 q) (hAX : ∀ q, q < H.size → AX q → A0 q)
    (kx : ∀ (E : String) (ce : Cell) (q9 : Addr) (u : SX) (t : State) (H1 : Heap) (locs1 : List Loc), t.heap = H1 → s.vm.Alike t.vm → px u → BX E u t → H.size ≤ H1.size → (∀ q : Nat, q < H.size → ¬ AX q → H1[q]? = H[q]?) → va_S A0 H0 H1 locs1 → H1[q9]? = some ce → ce.vm = .none → s.vm.findClass E = some ce.cls → vx_W p l e R s m args below meth c H1 locs1 (cells + mc) (slots + ms) Q (F0 m pc ls rest) q9)
    (kk : ∀ (u : S) (t : State) (H1 : Heap) (locs1 : List Loc), t.heap = H1 → s.vm.Alike t.vm → post u → B u t → H.size ≤ H1.size → (∀ q : Nat, q < H.size → ¬ A1 q → H1[q]? = H[q]?) → va_S A0 H0 H1 locs1 → W p l e R s m args below meth c H1 locs1 (cells + mc) (slots + ms) Q (F0 m (pc + 3) ls (rest))) : W p l e R s m args below meth c H locs cells slots Q (F0 m pc ls st0) := by
  intro T hT X
  rcases hr T hT X with ⟨v, st₀, t, T', L, h0, X', hL, e1, e2, ⟨⟨u, hv, hp, hb⟩, hF⟩, st⟩ | ⟨q, st₀, t, T', L, E, ce, h0, X', hL, e1, e2, ⟨u, hp, hb, hF⟩, hce, hcv, hcl, st⟩
  · cases hv
    obtain ⟨k1, k2, k3⟩ := vx_keep h0 e1 hS hA hf hL hF
    obtain ⟨t2, a1, b1⟩ := kk u t T'.heap (locs ++ L) e1.symm (by rw [← e2]; exact X'.warmed.alike) hp hb k1 k2 k3 T' rfl X'
    exact ⟨t2, st t2 a1, b1⟩
  · obtain ⟨k1, k2, k3⟩ := vx_keep h0 e1 hS hAX hf hL hF
    obtain ⟨t2, a1, b1⟩ := kx E ce q u t T'.heap (locs ++ L) e1.symm (by rw [← e2]; exact X'.warmed.alike) hp hb k1 k2 k3 (by rw [e1]; exact hce) hcv hcl T' rfl X'
    exact ⟨t2, st.trans a1, b1⟩
/-- caught by the row x of this method's table; the rows ahead don't take it -/
theorem vx_catch {own name : String} {E : String} {ce : Cell} {q : Addr} (hown : s.vm.findClass own = some m.cls) (pre : List ExceptionTableEntry) (x : ExceptionTableEntry) (suf : List ExceptionTableEntry) (hsplit : c.exceptionTable.toList = pre ++ x :: suf)
    (hpass : ∀ z ∈ pre, covers z pc = false ∨ (z.catchType ≠ 0 ∧ ∃ nm : String, (Cond.classLink own z.catchType nm).before args s = true ∧ va_Nc E nm s)) (hx : covers x pc = true) (h0 : x.catchType ≠ 0)
    (hlink : (Cond.classLink own x.catchType name).before args s = true) (hcast : (Cond.castable E name).before args s = true) (hcell : H[q]? = some ce) (hv : ce.vm = .none) (hcl : s.vm.findClass E = some ce.cls)
    (kk : W p l e R s m args below meth c H locs cells slots Q (F0 m x.handlerPc ls [.ref q])) : vx_W p l e R s m args below meth c H locs cells slots Q (F0 m pc ls rest) q := by
  intro T hT X
  have hpl : e.platform.magicAccessors = ({} : Platform).magicAccessors := by rw [X.admits.platform]
  obtain ⟨c3, c4, hc3, hc4, hasg⟩ := Cond.castable_spec hcast
  cases Option.some.inj (hc3.symm.trans hcl)
  obtain ⟨c5, hc5, hcl5⟩ := Cond.classLink_spec hown hlink e.platform hpl
  cases Option.some.inj (hc4.symm.trans hc5)
  obtain ⟨vm', X', st⟩ := X.thenCaughtThrough q (g := F0 m pc ls rest) rfl (Steps.refl _) (by rw [hT]; exact hcell) (by rw [hv]; rfl) (by obtain ⟨k9, h9, -⟩ := Vm.findClass_spec hcl; exact ⟨k9, h9⟩) pre x suf hsplit
    (fun z hz => by
      rcases hpass z hz with h | ⟨hz0, nm, hl1, hn1⟩
      · exact Or.inl h
      · obtain ⟨c6, hc6, hcl6⟩ := Cond.classLink_spec hown hl1 e.platform hpl
        obtain ⟨a8, b8, h1, h2, h3⟩ := hn1
        cases Option.some.inj (h1.symm.trans hcl)
        cases Option.some.inj (h2.symm.trans hc6)
        exact Or.inr ⟨hz0, _, hcl6, h3⟩) hx (Or.inr ⟨h0, c4, hcl5, hasg⟩)
  obtain ⟨t, a1, b1⟩ := kk (T.setVm vm') hT X'
  exact ⟨t, st.trans a1, b1⟩
end Rows
section Ends
variable {p : Program} {l : Launch} {e : Env} {R : Room} {s : State} {m : MethodId} {args : Array Value} {below : List Frame} {meth : Method} {c : Code} {H : Heap} {locs : List Loc} {cells slots : Nat} {Q : State → Prop}
variable {mc ms : Nat} {free : Addr → Prop} {A0 A1 : Nat → Prop} {H0 : Heap} {a : Array Value} {ls : Array Slot} {st0 rest : List Value}
variable {Qc : Array Value → State → Outcome → State → Prop} {XC : String → State → State → Prop}
/-- what a body that may throw owes at its end -/
def vx_MQ (below : List Frame) (Qc : Array Value → State → Outcome → State → Prop) (XC : String → State → State → Prop) (a : Array Value) (s : State) (mc ms : Nat) (free : Addr → Prop) : State → Prop := fun t =>
  ∃ o, t.status = .running ∧ Ended t below o ∧ vx_Q Qc XC mc ms free a s o t
theorem vx_ret {g : JFrame} {mc ms : Nat} (k : W p l e R s m args below meth c H locs cells slots (MQ below Qc args s mc ms free) g) : W p l e R s m args below meth c H locs cells slots (vx_MQ below Qc XC args s mc ms free) g := by
  intro T hT X
  obtain ⟨t, a1, o, b1, b2, b3, b4⟩ := k T hT X
  exact ⟨t, a1, o, b1, b2, Or.inl ⟨b3, b4⟩⟩
/-- not caught here: it goes on to the caller -/
theorem vx_widen {g : JFrame} {q : Addr} {k n : Nat} (h1 : cells ≤ k) (h2 : slots ≤ n) (kk : vx_W p l e R s m args below meth c H locs k n Q g q) : vx_W p l e R s m args below meth c H locs cells slots Q g q := fun T hT X => kk T hT (stand_widen X h1 h2)
theorem vx_out {pc : Nat} {E : String} {ce : Cell} {q : Addr} {mc ms : Nat} (hout : ∀ x ∈ c.exceptionTable.toList, covers x pc = false) (hlocks : meth.locks = false) (hcell : H[q]? = some ce) (hv : ce.vm = .none) (hcl : s.vm.findClass E = some ce.cls)
    (hx : ∀ t : State, t.heap = H → s.vm.Alike t.vm → XC E s t) (hf : ∀ z ∈ locs, free z.base) (hc : cells ≤ mc) (hs : slots ≤ ms) :
    vx_W p l e R s m args below meth c H locs cells slots (vx_MQ below Qc XC args s mc ms free) (F0 m pc ls rest) q := by
  intro T hT X
  obtain ⟨st1, hrun, hend, hW, hsm⟩ := X.leaveThrown q (g := F0 m pc ls rest) rfl rfl rfl hout hlocks
  have hcell9 : (T.setFrames (.throwing q :: below)).heap[q]? = some ce := by
    show T.heap[q]? = some ce
    rw [hT]; exact hcell
  exact ⟨_, st1, .threw q, hrun, hend, Or.inr ⟨q, rfl, E, ce, locs, hx _ hT hW.alike, hcell9, hv, hcl, hW, hsm.mono hc hs, hf⟩⟩
theorem vx_frame {U : State} {k n : Nat} (h : s.sameButNew ({ U with vm := s.vm } : State) locs k n) : s.heap.size ≤ U.heap.size ∧ ∀ q : Nat, q < s.heap.size → (∀ z ∈ locs, z.base ≠ q) → U.heap[q]? = s.heap[q]? := by
  obtain ⟨-, h2, -, -, -, h6⟩ := h
  refine ⟨h2, fun q hq hz => ?_⟩
  obtain ⟨c9, e1, e2, e3, e4⟩ := h6 q _ (Array.getElem?_eq_getElem hq)
  have hs : c9.slots = (s.heap[q]).slots := Array.ext_getElem? fun i => e4 i fun hm => hz _ hm rfl
  have h9 : c9 = s.heap[q] := by
    rw [hs] at e2
    exact e2
  have e5 : U.heap[q]? = some c9 := e1
  rw [e5, h9, Array.getElem?_eq_getElem hq]
/-- the words of a throw but the four that speak of the heap -/
def vx_no (w : Cond) : Bool := decide (w ≠ .isRef (.static Bundle.tN "UNASSIGNED_STACK" Bundle.steD)) && decide (w ≠ .isRef (.static Bundle.tN "SUPPRESSED_SENTINEL" Bundle.listD)) && decide (w ≠ .laysStatic Bundle.tN "UNASSIGNED_STACK" Bundle.steD) && decide (w ≠ .laysStatic Bundle.tN "SUPPRESSED_SENTINEL" Bundle.listD)
def vx_at0 (own : String) (ic : Nat) (X : String) (names : List String) : List Cond := (Bundle.ownAtoms0 own ic X names).filter vx_no
def vx_atS (own : String) (ic : Nat) (X : String) (names : List String) : List Cond := (Bundle.ownAtoms own ic X names).filter vx_no
/-- a word that the tables alone decide, or a good one -/
def vx_ot (w : Cond) : Bool := w.onTables || goodWord w
theorem vx_ot_at {args a' : Array Value} {s U : State} {w : Cond} (hW : s.WarmedH U.vm) (hvm : s.vm = U.vm) (hg : vx_ot w = true) (h : w.before args s = true) : w.before a' U = true := by
  simp only [vx_ot, Bool.or_eq_true] at hg
  rcases hg with hg | hg
  · exact va_tabs hg hvm h
  · exact word_at hW (good_of_word hg) h
/-- a list's words: the good ones out of the method's own list, the others by premises of their own -/
theorem vx_hat {args : Array Value} {s : State} {L B : List Cond} (h1 : ∀ w ∈ L.filter goodWord, w.before args s = true) (h2 : ∀ w ∈ L.filter (fun w => !goodWord w), w ∈ B) (h3 : ∀ w ∈ B, w.before args s = true) : ∀ w ∈ L, w.before args s = true := by
  intro w hw
  by_cases g : goodWord w = true
  · exact h1 w (List.mem_filter.mpr ⟨hw, g⟩)
  · refine h3 w (h2 w (List.mem_filter.mpr ⟨hw, ?_⟩))
    show (!goodWord w) = true
    cases hgw : goodWord w
    · rfl
    · exact absurd hgw g
theorem vx_c {args : Array Value} {s : State} {w : Cond} {B : List Cond} (h : w.before args s = true) (t : ∀ w ∈ B, w.before args s = true) : ∀ w' ∈ w :: B, w'.before args s = true := fun w' h' => (List.mem_cons.mp h').elim (fun e => by rw [e]; exact h) (t w')
theorem vx_n {args : Array Value} {s : State} : ∀ w ∈ ([] : List Cond), w.before args s = true := fun _ h => nomatch h
theorem vx_own {args : Array Value} {s : State} {L : List Cond} (h1 : ∀ w ∈ L.filter vx_no, w.before args s = true)
    (hU : (Cond.isRef (.static Bundle.tN "UNASSIGNED_STACK" Bundle.steD)).before args s = true) (hN : (Cond.isRef (.static Bundle.tN "SUPPRESSED_SENTINEL" Bundle.listD)).before args s = true)
    (lU : (Cond.laysStatic Bundle.tN "UNASSIGNED_STACK" Bundle.steD).before args s = true) (lN : (Cond.laysStatic Bundle.tN "SUPPRESSED_SENTINEL" Bundle.listD).before args s = true) : ∀ w ∈ L, w.before args s = true := by
  intro w hw
  by_cases e1 : w = .isRef (.static Bundle.tN "UNASSIGNED_STACK" Bundle.steD)
  · rw [e1]; exact hU
  · by_cases e2 : w = .isRef (.static Bundle.tN "SUPPRESSED_SENTINEL" Bundle.listD)
    · rw [e2]; exact hN
    · by_cases e3 : w = .laysStatic Bundle.tN "UNASSIGNED_STACK" Bundle.steD
      · rw [e3]; exact lU
      · by_cases e4 : w = .laysStatic Bundle.tN "SUPPRESSED_SENTINEL" Bundle.listD
        · rw [e4]; exact lN
        · exact h1 w (List.mem_filter.mpr ⟨hw, by unfold vx_no; rw [decide_eq_true e1, decide_eq_true e2, decide_eq_true e3, decide_eq_true e4]; rfl⟩)
/-- where a static field lies, its class's statics cell in H -/
def vx_L (C n d : String) (A : Nat → Prop) (U : State) (H : Heap) : Prop := ∃ (c : ClassId) (k : Class) (i : Nat) (f : Field) (a : Nat) (cell : Cell), U.vm.findClass C = some c ∧ U.fieldFound? C n d = some (c, k, i, f) ∧ f.isStatic = true ∧ k.statics = some a ∧ H[a]? = some cell ∧ cell.vm.isStatics = true ∧ cell.cls = c ∧ f.slot < cell.slots.size ∧ k.staticTypes[f.slot]? = some f.type ∧ ¬ A a
theorem vx_L.moved {C n d : String} {A : Nat → Prop} {u U : State} {H : Heap} (hvm : u.vm.Alike U.vm) (h : vx_L C n d A u H) : vx_L C n d A U H := by
  obtain ⟨c, k, i, f, a, cell, h1, h2, h3, h4, h5, h6, h7, h8, h9, h10⟩ := h
  obtain ⟨k', hi', he⟩ := State.fieldFound?_setVm hvm h2
  exact ⟨c, k', i, f, a, cell, by rw [hvm.findClass]; exact h1, hi', h3, by rw [he]; exact h4, h5, h6, h7, h8, by rw [he]; exact h9, h10⟩
theorem vx_L.kept {C n d : String} {A : Nat → Prop} {U : State} {H H1 : Heap} (h : vx_L C n d A U H) (hq : ∀ a : Nat, a < H.size → ¬ A a → H1[a]? = H[a]?) : vx_L C n d A U H1 := by
  obtain ⟨c, k, i, f, a, cell, h1, h2, h3, h4, h5, h6, h7, h8, h9, h10⟩ := h
  exact ⟨c, k, i, f, a, cell, h1, h2, h3, h4, by rw [hq a (Array.getElem?_eq_some_iff.mp h5).1 h10]; exact h5, h6, h7, h8, h9, h10⟩
theorem vx_L.narrow {C n d : String} {A B : Nat → Prop} {U : State} {H : Heap} (h : vx_L C n d A U H) (hAB : ∀ q, B q → A q) : vx_L C n d B U H := by
  obtain ⟨c, k, i, f, a, cell, h1, h2, h3, h4, h5, h6, h7, h8, h9, h10⟩ := h
  exact ⟨c, k, i, f, a, cell, h1, h2, h3, h4, h5, h6, h7, h8, h9, fun z => h10 (hAB _ z)⟩
theorem vx_L.word {C n d : String} {A : Nat → Prop} {s : State} {args : Array Value} (h : vx_L C n d A s s.heap) : (Cond.laysStatic C n d).before args s = true := by
  obtain ⟨c, k, i, f, a, cell, h1, h2, h3, h4, h5, h6, h7, h8, h9, -⟩ := h
  show (Cond.laysStatic C n d).holds args s none s [] = true
  exact Cond.laysStatic_of h1 h2 h3 h4 h5 h6 h7 h8 h9
/-- .. and what it holds: null or some reference -/
def vx_Zq (C n d : String) (A : Nat → Prop) (U : State) (H : Heap) : Prop := va_Zq C n d A U H ∧ vx_L C n d A U H
theorem vx_Zq.moved {C n d : String} {A : Nat → Prop} {u U : State} {H : Heap} (hvm : u.vm.Alike U.vm) (h : vx_Zq C n d A u H) : vx_Zq C n d A U H := ⟨va_Zq.moved hvm h.1, vx_L.moved hvm h.2⟩
theorem vx_Zq.kept {C n d : String} {A : Nat → Prop} {U : State} {H H1 : Heap} (h : vx_Zq C n d A U H) (hq : ∀ a : Nat, a < H.size → ¬ A a → H1[a]? = H[a]?) : vx_Zq C n d A U H1 := ⟨va_Zq.kept h.1 hq, vx_L.kept h.2 hq⟩
theorem vx_Zq.narrow {C n d : String} {A B : Nat → Prop} {U : State} {H : Heap} (h : vx_Zq C n d A U H) (hAB : ∀ q, B q → A q) : vx_Zq C n d B U H := ⟨va_Zq.narrow h.1 hAB, vx_L.narrow h.2 hAB⟩
theorem vx_Zqof {args : Array Value} {s : State} {C n d : String} {A : Nat → Prop} (hl : (Cond.laysStatic C n d).before args s = true) (hini : (Cond.initialized C).before args s = true) (h : (Cond.isRef (.static C n d)).before args s = true) (hA : ∀ a : Nat, a < s.heap.size → ¬ A a) : vx_Zq C n d A s s.heap := by
  refine ⟨va_Zqof hl hini h hA, ?_⟩
  obtain ⟨c, k, i, f, a, cell, h1, h2, h3, h4, h5, h6, h7, h8, h9⟩ := Cond.laysStatic_spec hl
  exact ⟨c, k, i, f, a, cell, h1, h2, h3, h4, h5, h6, h7, h8, h9, hA a (Array.getElem?_eq_some_iff.mp h5).1⟩
theorem vx_isRef {C n d : String} {v : Value} {A : Nat → Prop} {s : State} {args : Array Value} (h : va_Z C n d v A s s.heap) (hv : v.isRef = true) : (Cond.isRef (.static C n d)).before args s = true := by
  obtain ⟨cf, kf, fi, f, a, cell, h1, h2, h3, h4, h5, h6, h7, -⟩ := h
  have he : (Term.static C n d).eval args s none [] s = some v := by
    simp [Term.eval, State.fieldNamed?, h1, h2, h4, h5, h6, h7]
  simp only [Cond.before, Cond.holds, Cond.value, he]
  cases v <;> simp_all [Value.isRef]
theorem vx_isRefq {C n d : String} {A : Nat → Prop} {s : State} {args : Array Value} (h : va_Zq C n d A s s.heap) : (Cond.isRef (.static C n d)).before args s = true := by
  rcases h with h | ⟨t, h⟩
  · exact vx_isRef h rfl
  · exact vx_isRef h rfl
/-- the same frame, seen from here: as if the method were called anew in this heap -/
theorem vx_rebase {T : State} (X : Stand p l e R s m args below meth c T locs cells slots) {R' : Room} (hf : R'.frames ≤ R.frames) (hl : R'.locals ≤ R.locals) (hc : cells + R'.cells ≤ R.cells) (hs : slots + R'.slots ≤ R.slots) :
    Stand p l e R' ((T.setVm s.vm).setFrames (.invoking m args :: below)) m args below meth c T [] 0 0 := by
  have htop : (T.setVm s.vm).topJava?.isSome := X.here.top
  have hF : ((T.setVm s.vm).setFrames (.invoking m args :: below)).frames = .invoking m args :: below := State.frames_setFrames _ (State.cur_lt_of_top htop)
  obtain ⟨g₀, hg0⟩ := Option.isSome_iff_exists.mp htop
  obtain ⟨r, hr⟩ := State.topJava?_eq_some.mp hg0
  have hl9 : e.platform.stackLimits (T.setVm s.vm).me = e.platform.stackLimits s.me := X.limits
  have hb9 : (T.setVm s.vm).me.stackBytes = s.me.stackBytes := X.bytes
  refine ⟨X.admits, X.cas, X.clock, hF, ?_, X.hears, X.method, X.code, X.here, X.tail, X.warmed, ?_, ?_, ?_⟩
  · have h := X.room
    have hU : ((T.setVm s.vm).setFrames (.invoking m args :: below)).localsInUse = s.localsInUse := by
      rw [State.localsInUse_invoking hF (meth := meth) (c := c) X.method X.code, State.localsInUse_invoking X.frames X.method X.code]
    simp only [State.hasRoom, Bool.and_eq_true, decide_eq_true_eq] at h ⊢
    obtain ⟨⟨⟨⟨h1, h2, h3, h4, h5, h6⟩, h7⟩, h8⟩, h9⟩ := h
    rw [X.frames, List.length_cons] at h2 h3
    have q1 := X.heapSize
    have q2 := X.used
    simp only [hF, hU, List.length_cons, State.stackLimits_setFrames, State.stackBytes_setFrames, hl9, hb9]
    refine ⟨⟨⟨⟨by omega, by omega, by omega, by omega, by omega, h6⟩, ?_⟩, ?_⟩, X.book⟩
    · show T.heap.size + R'.cells ≤ e.platform.maxCells
      omega
    · show T.slotsUsed + R'.slots ≤ e.platform.maxSlots
      omega
  · rw [State.stackLimits_setFrames]; rfl
  · rw [State.stackBytes_setFrames]; rfl
  · refine ⟨?_, Nat.le_refl _, Nat.le_refl _, ?_, ?_, fun a c9 h9 => ⟨c9, h9, rfl, rfl, fun _ _ => rfl⟩⟩
    · obtain ⟨t, ht, -⟩ := State.frames_cons hr
      show T.setVm s.vm = { ((T.setVm s.vm).setFrames (.invoking m args :: below)).setFrames (T.setVm s.vm).frames with heap := T.heap, slotsUsed := T.slotsUsed }
      rw [State.setFrames_setFrames, State.setFrames_self ht]
      rfl
    · show T.slotsUsed = T.slotsUsed + ((T.heap.toList.drop T.heap.size).map (·.slots.size)).sum
      rw [List.drop_eq_nil_of_le (Nat.le_of_eq Array.length_toList)]
      rfl
    · show ((T.heap.toList.drop T.heap.size).map (·.slots.size)).sum ≤ 0
      rw [List.drop_eq_nil_of_le (Nat.le_of_eq Array.length_toList)]
      exact Nat.le_refl _
/-- 'throw new E()': new; dup; invokespecial; athrow -/
theorem vx_throw0 {cc : ByteArray} {pc : Nat} (hexec : p.tables.exec = Jvm.exec) (hb : c.code = cc) (hl : l.stackTraces = false) {own cls : String} {names : List String} {ik ic mc ms : Nat} {A : Nat → Prop}
    (hown : s.vm.findClass own = some m.cls) (hcls : Bundle.fit cls = true) (hnames : ∀ n ∈ names, Bundle.fit n = true)
    (hk : (Cond.classLink own ik cls).before args s = true) (hini : (Cond.initialized cls).before args s = true) (hat : ∀ w ∈ vx_at0 own ic cls names, w.before args s = true)
    (hgood : ∀ w ∈ Cond.classLink own ik cls :: Cond.initialized cls :: vx_at0 own ic cls names, vx_ot w = true)
    (hU : vx_Zq Bundle.tN "UNASSIGNED_STACK" Bundle.steD A s s.heap) (hN : vx_Zq Bundle.tN "SUPPRESSED_SENTINEL" Bundle.listD A s s.heap) (hS : va_S A s.heap H locs) (hsize : ls.size = c.maxLocals)
    (d0 : decode cc pc = .ok (.new ik, 3)) (d3 : decode cc (pc + 3) = .ok (.dup, 1)) (d4 : decode cc (pc + 4) = .ok (.invokespecial ic, 3)) (d7 : decode cc (pc + 7) = .ok (.athrow, 1))
    (hout : ∀ x ∈ c.exceptionTable.toList, covers x (pc + 7) = false)
    (hRframes : names.length + 3 < R.frames) (hRlocals : (rest.map fun v => v.category).sum + (13 * (names.length + 1) + 42) ≤ R.locals) (hRcells : cells + 1 ≤ R.cells) (hRslots : slots + 6 ≤ R.slots) (hlocks : meth.locks = false)
    (hx : ∀ t : State, s.vm.Alike t.vm → H.size ≤ t.heap.size → (∀ q : Nat, q < H.size → t.heap[q]? = H[q]?) → XC cls s t)
    (hf : ∀ z ∈ locs, free z.base) (hc : cells + 1 ≤ mc) (hs : slots + 6 ≤ ms) :
    W p l e R s m args below meth c H locs cells slots (vx_MQ below Qc XC args s mc ms free) (F0 m pc ls rest) := by
  intro T hT X
  have htr : e.platform.stackTraces = false := (show e.platform.stackTraces = l.stackTraces by rw [X.admits.platform]).trans hl
  have Y := vx_rebase X (R' := { frames := R.frames, locals := R.locals, cells := 1, slots := 6 }) (Nat.le_refl _) (Nat.le_refl _) hRcells hRslots
  obtain ⟨s', hA⟩ : ∃ z, z = (T.setVm s.vm).setFrames (.invoking m args :: below) := ⟨_, rfl⟩
  rw [← hA] at Y
  have hvm : s'.vm = s.vm := by rw [hA]; rfl
  have hhp : s'.heap = H := by rw [hA]; exact hT
  have hW0 : s.WarmedH s'.vm := by rw [hvm]; exact State.WarmedH.refl s
  have hat' : ∀ w ∈ vx_at0 own ic cls names, w.before args s' = true := fun w hw => vx_ot_at hW0 hvm.symm (hgood w (List.mem_cons_of_mem _ (List.mem_cons_of_mem _ hw))) (hat w hw)
  have hk' : (Cond.classLink own ik cls).before args s' = true := vx_ot_at hW0 hvm.symm (hgood _ List.mem_cons_self) hk
  have hini' : (Cond.initialized cls).before args s' = true := vx_ot_at hW0 hvm.symm (hgood _ (List.mem_cons_of_mem _ List.mem_cons_self)) hini
  have hU' : vx_Zq Bundle.tN "UNASSIGNED_STACK" Bundle.steD A s' s'.heap := by rw [hhp]; exact vx_Zq.moved hW0.alike (hU.kept hS.2.1)
  have hN' : vx_Zq Bundle.tN "SUPPRESSED_SENTINEL" Bundle.listD A s' s'.heap := by rw [hhp]; exact vx_Zq.moved hW0.alike (hN.kept hS.2.1)
  have h : ∀ w ∈ Bundle.ownAtoms0 own ic cls names, w.before args s' = true := vx_own hat' (vx_isRefq hU'.1) (vx_isRefq hN'.1) hU'.2.word hN'.2.word
  have hown' : s'.vm.findClass own = some m.cls := by rw [hvm]; exact hown
  have hins : (Cond.instantiable cls 6).before args s' = true := h _ (by simp [Bundle.ownAtoms0])
  obtain ⟨vm₁, cX, kX, hfX, hkX, -, -, X₁, st1⟩ := Y.newCold hexec (own := own) (C := cls) (index := ik) (n := 6) hown' hk' hins hini'
    (g := F0 m pc ls rest) rfl (by rw [hb]; exact d0) (Nat.le_refl _) (Nat.le_refl _)
  generalize hT1 : (T.setVm vm₁).pushCell { cls := cX, slots := kX.instanceTypes.map defaultValue, vm := .none } = T1 at X₁ st1
  have hcat : (Value.ref T.heap.size).category = 1 := rfl
  have hcellA : T1.heap[T.heap.size]? = some (freshCell cX kX) := by rw [← hT1]; exact State.heap_pushCell_size _ _
  have d3' : decode c.code (pc + 3) = .ok (.dup, 1) := by rw [hb]; exact d3
  obtain ⟨U, hsteps, hrun, hend, hW, hsame, ce, hce, hO⟩ := X₁.ctorThrow0 hexec htr (own := own) (cls := cls) (names := names) (ic := ic) hown' hcls hnames h (fun x hx => nomatch hx) hfX hkX hcellA (by rw [hhp, hT]; exact Nat.le_refl _)
    (g := { method := m, pc := pc + 4, locals := ls, stack := .ref T.heap.size :: .ref T.heap.size :: rest, locked := none }) rfl hsize rfl rfl (rest := rest) rfl
    (by rw [hb]; exact d4) (by rw [hb]; exact d7) hout hRframes (by simp only [List.map_cons, List.sum_cons, hcat]; omega) hlocks
  obtain ⟨f1, f2⟩ := vx_frame hsame
  rw [hhp] at f1 f2
  have hWs : s.WarmedH U.vm := State.WarmedH.trans hW0 hW
  have hcl : s.vm.findClass cls = some ce.cls := by
    have h9 := hO.cls
    rw [hvm] at h9
    exact h9
  have hall : s.sameButNew ({ U with vm := s.vm } : State) locs mc ms := by
    subst hA
    obtain ⟨e1, e2⟩ := hsame
    rw [State.setFrames_setFrames] at e1
    have h2 : (T.setVm s.vm).sameButNew ({ U with vm := s.vm } : State) [] (0 + 1) (0 + 6) := ⟨e1, e2⟩
    have h3 := X.same.trans h2
    rw [List.append_nil] at h3
    exact h3.mono hc hs
  refine ⟨U, ?_, .threw T.heap.size, hrun, hend, Or.inr ⟨T.heap.size, rfl, cls, ce, locs, hx U hWs.alike f1 (fun q hq => f2 q hq (fun z hz => nomatch hz)), hce, hO.vm, hcl, hWs, hall, hf⟩⟩
  refine st1 _ ?_
  show Steps p.tables e below (T1.setTop { method := m, pc := pc + 3, locals := ls, stack := .ref T.heap.size :: rest, locked := none }) _
  jvm_step X₁.here [X₁.here.top, hexec, d3', Value.category]
  exact hsteps
/-- 'throw new E("text")': new; dup; ldc; invokespecial; athrow -/
theorem vx_throwS {cc : ByteArray} {pc : Nat} (hexec : p.tables.exec = Jvm.exec) (hb : c.code = cc) (hl : l.stackTraces = false) {own cls text : String} {names : List String} {ik is ic mc ms sa : Nat} {A : Nat → Prop}
    (hown : s.vm.findClass own = some m.cls) (hcls : Bundle.fit cls = true) (hnames : ∀ n ∈ names, Bundle.fit n = true)
    (hk : (Cond.classLink own ik cls).before args s = true) (hini : (Cond.initialized cls).before args s = true) (hstr : vk_R own is text sa s) (hat : ∀ w ∈ vx_atS own ic cls names, w.before args s = true)
    (hgood : ∀ w ∈ Cond.classLink own ik cls :: Cond.initialized cls :: vx_atS own ic cls names, vx_ot w = true)
    (hU : vx_Zq Bundle.tN "UNASSIGNED_STACK" Bundle.steD A s s.heap) (hN : vx_Zq Bundle.tN "SUPPRESSED_SENTINEL" Bundle.listD A s s.heap) (hS : va_S A s.heap H locs) (hsize : ls.size = c.maxLocals)
    (d0 : decode cc pc = .ok (.new ik, 3)) (d3 : decode cc (pc + 3) = .ok (.dup, 1)) (d4 : decode cc (pc + 4) = .ok (.ldc is, 2)) (d6 : decode cc (pc + 6) = .ok (.invokespecial ic, 3)) (d9 : decode cc (pc + 9) = .ok (.athrow, 1))
    (hout : ∀ x ∈ c.exceptionTable.toList, covers x (pc + 9) = false)
    (hRframes : names.length + 3 < R.frames) (hRlocals : (rest.map fun v => v.category).sum + (13 * (names.length + 1) + 43) ≤ R.locals) (hRcells : cells + 1 ≤ R.cells) (hRslots : slots + 6 ≤ R.slots) (hlocks : meth.locks = false)
    (hx : ∀ t : State, s.vm.Alike t.vm → H.size ≤ t.heap.size → (∀ q : Nat, q < H.size → t.heap[q]? = H[q]?) → XC cls s t)
    (hf : ∀ z ∈ locs, free z.base) (hc : cells + 1 ≤ mc) (hs : slots + 6 ≤ ms) :
    W p l e R s m args below meth c H locs cells slots (vx_MQ below Qc XC args s mc ms free) (F0 m pc ls rest) := by
  intro T hT X
  have htr : e.platform.stackTraces = false := (show e.platform.stackTraces = l.stackTraces by rw [X.admits.platform]).trans hl
  have Y := vx_rebase X (R' := { frames := R.frames, locals := R.locals, cells := 1, slots := 6 }) (Nat.le_refl _) (Nat.le_refl _) hRcells hRslots
  obtain ⟨s', hA⟩ : ∃ z, z = (T.setVm s.vm).setFrames (.invoking m args :: below) := ⟨_, rfl⟩
  rw [← hA] at Y
  have hvm : s'.vm = s.vm := by rw [hA]; rfl
  have hhp : s'.heap = H := by rw [hA]; exact hT
  have hW0 : s.WarmedH s'.vm := by rw [hvm]; exact State.WarmedH.refl s
  have hat' : ∀ w ∈ vx_atS own ic cls names, w.before args s' = true := fun w hw => vx_ot_at hW0 hvm.symm (hgood w (List.mem_cons_of_mem _ (List.mem_cons_of_mem _ hw))) (hat w hw)
  have hk' : (Cond.classLink own ik cls).before args s' = true := vx_ot_at hW0 hvm.symm (hgood _ List.mem_cons_self) hk
  have hini' : (Cond.initialized cls).before args s' = true := vx_ot_at hW0 hvm.symm (hgood _ (List.mem_cons_of_mem _ List.mem_cons_self)) hini
  have hU' : vx_Zq Bundle.tN "UNASSIGNED_STACK" Bundle.steD A s' s'.heap := by rw [hhp]; exact vx_Zq.moved hW0.alike (hU.kept hS.2.1)
  have hN' : vx_Zq Bundle.tN "SUPPRESSED_SENTINEL" Bundle.listD A s' s'.heap := by rw [hhp]; exact vx_Zq.moved hW0.alike (hN.kept hS.2.1)
  have h : ∀ w ∈ Bundle.ownAtoms own ic cls names, w.before args s' = true := vx_own hat' (vx_isRefq hU'.1) (vx_isRefq hN'.1) hU'.2.word hN'.2.word
  have hown' : s'.vm.findClass own = some m.cls := by rw [hvm]; exact hown
  have hins : (Cond.instantiable cls 6).before args s' = true := h _ (by simp [Bundle.ownAtoms])
  obtain ⟨vm₁, cX, kX, hfX, hkX, -, -, X₁, st1⟩ := Y.newCold hexec (own := own) (C := cls) (index := ik) (n := 6) hown' hk' hins hini'
    (g := F0 m pc ls rest) rfl (by rw [hb]; exact d0) (Nat.le_refl _) (Nat.le_refl _)
  generalize hT1 : (T.setVm vm₁).pushCell { cls := cX, slots := kX.instanceTypes.map defaultValue, vm := .none } = T1 at X₁ st1
  have hcat : (Value.ref T.heap.size).category = 1 := rfl
  have hcellA : T1.heap[T.heap.size]? = some (freshCell cX kX) := by rw [← hT1]; exact State.heap_pushCell_size _ _
  have d3' : decode c.code (pc + 3) = .ok (.dup, 1) := by rw [hb]; exact d3
  have d4' : decode c.code (pc + 4) = .ok (.ldc is, 2) := by rw [hb]; exact d4
  have hstr' : vk_R own is text sa s' := vk_R.warm hW0 hstr
  obtain ⟨U, hsteps, hrun, hend, hW, hsame, ce, hce, hO⟩ := X₁.ctorThrowS hexec htr (own := own) (cls := cls) (names := names) (ic := ic) hown' hcls hnames h (fun x hx => nomatch hx) hfX hkX hcellA (by rw [hhp, hT]; exact Nat.le_refl _) (msg := .ref sa) rfl
    (g := { method := m, pc := pc + 6, locals := ls, stack := .ref sa :: .ref T.heap.size :: .ref T.heap.size :: rest, locked := none }) rfl hsize rfl rfl (rest := rest) rfl
    (by rw [hb]; exact d6) (by rw [hb]; exact d9) hout hRframes (by simp only [List.map_cons, List.sum_cons, hcat]; omega) hlocks
  obtain ⟨f1, f2⟩ := vx_frame hsame
  rw [hhp] at f1 f2
  have hWs : s.WarmedH U.vm := State.WarmedH.trans hW0 hW
  have hcl : s.vm.findClass cls = some ce.cls := by
    have h9 := hO.cls
    rw [hvm] at h9
    exact h9
  have hall : s.sameButNew ({ U with vm := s.vm } : State) locs mc ms := by
    subst hA
    obtain ⟨e1, e2⟩ := hsame
    rw [State.setFrames_setFrames] at e1
    have h2 : (T.setVm s.vm).sameButNew ({ U with vm := s.vm } : State) [] (0 + 1) (0 + 6) := ⟨e1, e2⟩
    have h3 := X.same.trans h2
    rw [List.append_nil] at h3
    exact h3.mono hc hs
  refine ⟨U, ?_, .threw T.heap.size, hrun, hend, Or.inr ⟨T.heap.size, rfl, cls, ce, locs, hx U hWs.alike f1 (fun q hq => f2 q hq (fun z hz => nomatch hz)), hce, hO.vm, hcl, hWs, hall, hf⟩⟩
  refine st1 _ ?_
  show Steps p.tables e below (T1.setTop { method := m, pc := pc + 3, locals := ls, stack := .ref T.heap.size :: rest, locked := none }) _
  jvm_step X₁.here [X₁.here.top, hexec, d3', Value.category]
  exact X₁.ldcString hexec (own := own) (text := text) (index := is) (a := sa) hown' hstr'.1 hstr'.2
    (g := { method := m, pc := pc + 4, locals := ls, stack := .ref T.heap.size :: .ref T.heap.size :: rest, locked := none }) rfl d4' _ hsteps
/-- 'throw new E("text")', the text by a wide index -/
theorem vx_throwSW {cc : ByteArray} {pc : Nat} (hexec : p.tables.exec = Jvm.exec) (hb : c.code = cc) (hl : l.stackTraces = false) {own cls text : String} {names : List String} {ik is ic mc ms sa : Nat} {A : Nat → Prop}
    (hown : s.vm.findClass own = some m.cls) (hcls : Bundle.fit cls = true) (hnames : ∀ n ∈ names, Bundle.fit n = true)
    (hk : (Cond.classLink own ik cls).before args s = true) (hini : (Cond.initialized cls).before args s = true) (hstr : vk_R own is text sa s) (hat : ∀ w ∈ vx_atS own ic cls names, w.before args s = true)
    (hgood : ∀ w ∈ Cond.classLink own ik cls :: Cond.initialized cls :: vx_atS own ic cls names, vx_ot w = true)
    (hU : vx_Zq Bundle.tN "UNASSIGNED_STACK" Bundle.steD A s s.heap) (hN : vx_Zq Bundle.tN "SUPPRESSED_SENTINEL" Bundle.listD A s s.heap) (hS : va_S A s.heap H locs) (hsize : ls.size = c.maxLocals)
    (d0 : decode cc pc = .ok (.new ik, 3)) (d3 : decode cc (pc + 3) = .ok (.dup, 1)) (d4 : decode cc (pc + 4) = .ok (.ldc_w is, 3)) (d7 : decode cc (pc + 7) = .ok (.invokespecial ic, 3)) (d10 : decode cc (pc + 10) = .ok (.athrow, 1))
    (hout : ∀ x ∈ c.exceptionTable.toList, covers x (pc + 10) = false)
    (hRframes : names.length + 3 < R.frames) (hRlocals : (rest.map fun v => v.category).sum + (13 * (names.length + 1) + 43) ≤ R.locals) (hRcells : cells + 1 ≤ R.cells) (hRslots : slots + 6 ≤ R.slots) (hlocks : meth.locks = false)
    (hx : ∀ t : State, s.vm.Alike t.vm → H.size ≤ t.heap.size → (∀ q : Nat, q < H.size → t.heap[q]? = H[q]?) → XC cls s t)
    (hf : ∀ z ∈ locs, free z.base) (hc : cells + 1 ≤ mc) (hs : slots + 6 ≤ ms) :
    W p l e R s m args below meth c H locs cells slots (vx_MQ below Qc XC args s mc ms free) (F0 m pc ls rest) := by
  intro T hT X
  have htr : e.platform.stackTraces = false := (show e.platform.stackTraces = l.stackTraces by rw [X.admits.platform]).trans hl
  have Y := vx_rebase X (R' := { frames := R.frames, locals := R.locals, cells := 1, slots := 6 }) (Nat.le_refl _) (Nat.le_refl _) hRcells hRslots
  obtain ⟨s', hA⟩ : ∃ z, z = (T.setVm s.vm).setFrames (.invoking m args :: below) := ⟨_, rfl⟩
  rw [← hA] at Y
  have hvm : s'.vm = s.vm := by rw [hA]; rfl
  have hhp : s'.heap = H := by rw [hA]; exact hT
  have hW0 : s.WarmedH s'.vm := by rw [hvm]; exact State.WarmedH.refl s
  have hat' : ∀ w ∈ vx_atS own ic cls names, w.before args s' = true := fun w hw => vx_ot_at hW0 hvm.symm (hgood w (List.mem_cons_of_mem _ (List.mem_cons_of_mem _ hw))) (hat w hw)
  have hk' : (Cond.classLink own ik cls).before args s' = true := vx_ot_at hW0 hvm.symm (hgood _ List.mem_cons_self) hk
  have hini' : (Cond.initialized cls).before args s' = true := vx_ot_at hW0 hvm.symm (hgood _ (List.mem_cons_of_mem _ List.mem_cons_self)) hini
  have hU' : vx_Zq Bundle.tN "UNASSIGNED_STACK" Bundle.steD A s' s'.heap := by rw [hhp]; exact vx_Zq.moved hW0.alike (hU.kept hS.2.1)
  have hN' : vx_Zq Bundle.tN "SUPPRESSED_SENTINEL" Bundle.listD A s' s'.heap := by rw [hhp]; exact vx_Zq.moved hW0.alike (hN.kept hS.2.1)
  have h : ∀ w ∈ Bundle.ownAtoms own ic cls names, w.before args s' = true := vx_own hat' (vx_isRefq hU'.1) (vx_isRefq hN'.1) hU'.2.word hN'.2.word
  have hown' : s'.vm.findClass own = some m.cls := by rw [hvm]; exact hown
  have hins : (Cond.instantiable cls 6).before args s' = true := h _ (by simp [Bundle.ownAtoms])
  obtain ⟨vm₁, cX, kX, hfX, hkX, -, -, X₁, st1⟩ := Y.newCold hexec (own := own) (C := cls) (index := ik) (n := 6) hown' hk' hins hini'
    (g := F0 m pc ls rest) rfl (by rw [hb]; exact d0) (Nat.le_refl _) (Nat.le_refl _)
  generalize hT1 : (T.setVm vm₁).pushCell { cls := cX, slots := kX.instanceTypes.map defaultValue, vm := .none } = T1 at X₁ st1
  have hcat : (Value.ref T.heap.size).category = 1 := rfl
  have hcellA : T1.heap[T.heap.size]? = some (freshCell cX kX) := by rw [← hT1]; exact State.heap_pushCell_size _ _
  have d3' : decode c.code (pc + 3) = .ok (.dup, 1) := by rw [hb]; exact d3
  have d4' : decode c.code (pc + 4) = .ok (.ldc_w is, 3) := by rw [hb]; exact d4
  have hstr' : vk_R own is text sa s' := vk_R.warm hW0 hstr
  obtain ⟨U, hsteps, hrun, hend, hW, hsame, ce, hce, hO⟩ := X₁.ctorThrowS hexec htr (own := own) (cls := cls) (names := names) (ic := ic) hown' hcls hnames h (fun x hx => nomatch hx) hfX hkX hcellA (by rw [hhp, hT]; exact Nat.le_refl _) (msg := .ref sa) rfl
    (g := { method := m, pc := pc + 7, locals := ls, stack := .ref sa :: .ref T.heap.size :: .ref T.heap.size :: rest, locked := none }) rfl hsize rfl rfl (rest := rest) rfl
    (by rw [hb]; exact d7) (by rw [hb]; exact d10) hout hRframes (by simp only [List.map_cons, List.sum_cons, hcat]; omega) hlocks
  obtain ⟨f1, f2⟩ := vx_frame hsame
  rw [hhp] at f1 f2
  have hWs : s.WarmedH U.vm := State.WarmedH.trans hW0 hW
  have hcl : s.vm.findClass cls = some ce.cls := by
    have h9 := hO.cls
    rw [hvm] at h9
    exact h9
  have hall : s.sameButNew ({ U with vm := s.vm } : State) locs mc ms := by
    subst hA
    obtain ⟨e1, e2⟩ := hsame
    rw [State.setFrames_setFrames] at e1
    have h2 : (T.setVm s.vm).sameButNew ({ U with vm := s.vm } : State) [] (0 + 1) (0 + 6) := ⟨e1, e2⟩
    have h3 := X.same.trans h2
    rw [List.append_nil] at h3
    exact h3.mono hc hs
  refine ⟨U, ?_, .threw T.heap.size, hrun, hend, Or.inr ⟨T.heap.size, rfl, cls, ce, locs, hx U hWs.alike f1 (fun q hq => f2 q hq (fun z hz => nomatch hz)), hce, hO.vm, hcl, hWs, hall, hf⟩⟩
  refine st1 _ ?_
  show Steps p.tables e below (T1.setTop { method := m, pc := pc + 3, locals := ls, stack := .ref T.heap.size :: rest, locked := none }) _
  jvm_step X₁.here [X₁.here.top, hexec, d3', Value.category]
  exact X₁.ldcStringW hexec (own := own) (text := text) (index := is) (a := sa) hown' hstr'.1 hstr'.2
    (g := { method := m, pc := pc + 4, locals := ls, stack := .ref T.heap.size :: .ref T.heap.size :: rest, locked := none }) rfl d4' _ hsteps
end Ends
section Bodies
variable {l : Launch}
theorem vx_ofW {y : MethodName} {ws ws' : List Cond} {rm : Room} {Pc : Array Value → State → Prop} {Qc : Array Value → State → Outcome → State → Prop} {XC : String → State → State → Prop} {mc ms : Nat} {free : Addr → Prop} {cc : ByteArray} {maxL : Nat} {ret : Option FieldType}
    (hy : plainName y.cls = true) (hw : ws = Cond.code y cc maxL ret :: ws')
    (body : ∀ p e s m args below meth c s₁, BodyLoose p l y (headSpec ws rm) cc maxL ret e s m args below meth c s₁ → c.maxLocals = maxL → (∀ x ∈ c.exceptionTable.toList, False) → Pc args s →
      W p l e (headSpec ws rm).room s m args below meth c s.heap [] 0 0 (vx_MQ below Qc XC args s mc ms free) (entryFrame m args maxL)) : vx_Met l y ws rm Pc Qc XC mc ms free := by
  refine MetFree.of_bodyS (code := cc) (maxLocals := maxL) (ret := ret) hy ?_ ?_
  · intro args s m h hn
    obtain ⟨meth, c, h1, h2, h3, h4, h5, h6, -, -⟩ := Cond.code_spec hn (atoms_spec (ws := ws) h _ (by rw [hw]; exact List.mem_cons_self))
    exact ⟨meth, c, h1, h2, h3, h4, h5, h6⟩
  · intro p e s m args below meth c s₁ B hml hP _
    have hh0 : s₁.heap = s.heap := by rw [B.state]; rfl
    have ht : ∀ x ∈ c.exceptionTable.toList, False := by
      obtain ⟨meth9, c9, h1, h2, -, -, -, -, h7, -⟩ := Cond.code_spec B.named (atoms_spec (ws := ws) B.pre _ (by rw [hw]; exact List.mem_cons_self))
      cases Option.some.inj (h1.symm.trans B.method)
      cases Option.some.inj (h2.symm.trans (Stand.of_body B).code)
      intro x hx
      rw [Array.isEmpty_iff.mp h7] at hx
      cases hx
    obtain ⟨t, a1, o, b1, b2, b3⟩ := body p e s m args below meth c s₁ B hml ht hP s₁ hh0 (Stand.of_body B)
    exact ⟨t, o, a1, b1, b2, b3⟩
/-- the table of a body with handlers -/
theorem vx_table {p : Program} {x y : MethodName} {S : Spec} {cc bytes : ByteArray} {maxL maxL' : Nat} {ret ret' : Option FieldType} {e : Env} {s s₁ : State} {m : MethodId} {args : Array Value} {below : List Frame} {meth : Method} {c : Code} {hh : List (Nat × Nat × Nat × Nat)}
    (B : BodyLoose p l y S cc maxL ret e s m args below meth c s₁) (h : (Cond.codeWith y bytes maxL' ret' hh).before args s = true) : c.exceptionTable.toList = tableOf hh := by
  obtain ⟨m9, meth9, c9, hn9, h1, h2, -, -, h6, -⟩ := Cond.codeWith_spec h
  cases Option.some.inj (hn9.symm.trans B.named)
  cases Option.some.inj (h1.symm.trans B.method)
  cases Option.some.inj (h2.symm.trans (Stand.of_body B).code)
  rw [← h6, table_eq]
end Bodies
end VXA
/-! ===== END ===== -/
/-! ===== BEGIN a static call of a method with an exception table ===== -/
section VXS
variable {p : Program} {l : Launch} {e : Env} {R : Room} {s : State} {m : MethodId} {args : Array Value} {below : List Frame} {meth : Method} {c : Code} {T : State} {H : Heap} {locs : List Loc} {cells slots : Nat}
abbrev vx_CSW (R : Room) (s : State) (args : Array Value) (own : String) (index : Nat) (y : MethodName) (bytes : ByteArray) (maxL : Nat) (ret : Option FieldType) (hh : List (Nat × Nat × Nat × Nat)) (ws : List Cond) (rm : Room) (mc ms n : Nat) : Prop :=
  (rm.cells = mc ∧ rm.slots = ms ∧ rm.frames + 1 ≤ R.frames ∧ 8 + (maxL + 11) + rm.locals ≤ R.locals ∧ (∀ w ∈ ws, ∀ (a' : Array Value) (U : State), s.WarmedH U.vm → w.before a' U = true) ∧ Cond.codeWith y bytes maxL ret hh ∈ ws) ∧
  (Cond.codeWith y bytes maxL ret hh).before args s = true ∧ (Cond.initialized y.cls).before args s = true ∧ (y.cls ≠ "java/lang/invoke/MethodHandle" ∧ y.cls ≠ "java/lang/invoke/VarHandle") ∧
  (∀ sig, parseMethodDescriptor y.desc = some sig → n = sig.parameters.length) ∧ (Cond.methodLink own index y).before args s = true ∧ (Cond.static y).before args s = true
theorem vx_cwSW {own : String} {index maxL mc ms : Nat} {y : MethodName} {bytes : ByteArray} {ret : Option FieldType} {hh : List (Nat × Nat × Nat × Nat)} {Ts ws ws' : List Cond} {rm : Room} (n : Nat) (ht : ∀ w ∈ Ts, w.before args s = true) (hT : GoodIn Ts (va_wsS own index y ws)) (hw : ws = Cond.codeWith y bytes maxL ret hh :: ws') (hrc : rm.cells = mc) (hrs : rm.slots = ms)
    (hd : y.cls ≠ "java/lang/invoke/MethodHandle" ∧ y.cls ≠ "java/lang/invoke/VarHandle" ∧ (parseMethodDescriptor y.desc).map (fun d => d.parameters.length) = some n) (hR : rm.frames + 1 ≤ R.frames ∧ 8 + (maxL + 11) + rm.locals ≤ R.locals) :
    vx_CSW R s args own index y bytes maxL ret hh ws rm mc ms n := by
  have ok : ∀ w ∈ va_wsS own index y ws, w.before args s = true := fun w h => ht w (hT w h).1
  have hG : GoodIn Ts ws := fun w h => hT w (by unfold va_wsS; exact List.mem_append_right _ h)
  have hc : Cond.codeWith y bytes maxL ret hh ∈ ws := by rw [hw]; exact List.mem_cons_self
  refine ⟨⟨hrc, hrs, hR.1, hR.2, pay_in ht hG, hc⟩, ht _ (hG _ hc).1, ok _ (by simp [va_wsS]), ⟨hd.1, hd.2.1⟩, fun sig h => ?_, ok _ (by simp [va_wsS]), ok _ (by simp [va_wsS])⟩
  have h2 := hd.2.2
  rw [h] at h2
  exact (Option.some.inj h2).symm
theorem vx_callSW (X : Stand p l e R s m args below meth c T locs cells slots) (hexec : p.tables.exec = Jvm.exec) {own : String} {index : Nat} {y : MethodName} {bytes : ByteArray} {maxL : Nat} {ret : Option FieldType} {hh : List (Nat × Nat × Nat × Nat)}
    (hown : s.vm.findClass own = some m.cls) (hlink : (Cond.methodLink own index y).before args s = true) (hstat : (Cond.static y).before args s = true) (hinit : (Cond.initialized y.cls).before args s = true)
    (hcode : (Cond.codeWith y bytes maxL ret hh).before args s = true) (hy : y.cls ≠ "java/lang/invoke/MethodHandle" ∧ y.cls ≠ "java/lang/invoke/VarHandle")
    {W9 : Nat} {Pre : Pt → Array Value → Prop} {Post : Pt → Array Value → Option Value → Pt → Prop} (hK : Back l R p e below s args y 3 W9 Pre Post)
    {g : JFrame} (hg : g.method = m) (hsize : g.locals.size = c.maxLocals) {argsL rest : List Value} (hlen : ∀ sig, parseMethodDescriptor y.desc = some sig → argsL.length = sig.parameters.length)
    (hstack : g.stack = argsL.reverse ++ rest) (hW : 2 * g.monitorRoom + (rest.map fun v => v.category).sum ≤ W9) (hdg : decode c.code g.pc = .ok (.invokestatic index, 3))
    (hpre : ∀ vm₁, s.WarmedH vm₁ → Pre ⟨T.setVm vm₁, locs, cells, slots⟩ argsL.toArray) :
    ∃ (v : Option Value) (vm₁ : Vm) (B : Pt), s.WarmedH vm₁ ∧ Stand p l e R s m args below meth c B.U B.locs B.cells B.slots ∧ Post ⟨T.setVm vm₁, locs, cells, slots⟩ argsL.toArray v B ∧
      ∀ target, Steps p.tables e below (B.U.setTop { g with pc := g.pc + 3, stack := v.toList ++ rest }) target → Steps p.tables e below (T.setTop g) target := by
  obtain ⟨mk, methM, cM, hnamed, hmethM, -, -, -, -, -, -, hsigM⟩ := Cond.codeWith_spec hcode
  have hstatic : methM.isStatic = true := Cond.static_spec hnamed hmethM hstat
  obtain ⟨kP, hkP, -⟩ := className_of_methodNamed hnamed
  have hinitP : kP.init = .initialized := Cond.initialized_spec (findClass_of_methodNamed hnamed) hkP hinit
  obtain ⟨vm₁, X₁, hstep₁⟩ := X.invokestatic hexec hown hlink hnamed hmethM hstatic hkP hinitP hy (g := g) hg (argsL := argsL) (rest := rest) (hlen _ hsigM) hstack hdg
  obtain ⟨v, B, X', hpost, hsteps⟩ := hK m meth c ⟨T.setVm vm₁, locs, cells, slots⟩ { g with stack := rest } (.invokestatic index) mk argsL.toArray X₁ hg hsize hdg hW (X₁.named hnamed) (hpre vm₁ X₁.warmed)
  exact ⟨v, vm₁, B, X₁.warmed, X', hpost, fun target h => hstep₁ _ fun acts => by rw [doInvoke_state]; exact hsteps.trans h⟩
theorem vx_runSW {y : MethodName} {bytes cc : ByteArray} {maxL nL mc ms n index : Nat} {ret : Option FieldType} {hh : List (Nat × Nat × Nat × Nat)} {ws : List Cond} {rm : Room} {Pc : Array Value → State → Prop} {Qc : Array Value → State → Outcome → State → Prop} {free : Addr → Prop} {Ts : List Cond} {own : String} {As rest : List Value} {g : JFrame}
    (S : CallFix p m c cc nL s args Ts own) (hM : Met l y ws rm Pc Qc mc ms free) (cw : vx_CSW R s args own index y bytes maxL ret hh ws rm mc ms n) (hp : PreS s H Pc As)
    (hg : g.method = m) (hn : As.length = n) (hsize : g.locals.size = nL) (hstack : g.stack = As.reverse ++ rest) (hW : 2 * g.monitorRoom + (rest.map fun v => v.category).sum ≤ 8) (hdg : decode cc g.pc = .ok (.invokestatic index, 3)) (hf : cells + mc ≤ R.cells ∧ slots + ms ≤ R.slots) :
    va_Run p l e R s m args below meth c H locs cells slots mc ms g rest (Qc As.toArray) (free) := by
  obtain ⟨⟨hrc, hrs, hfr, hlo, hws, hcw⟩, hcode, hini, hy, hlen, hl, hstt⟩ := cw
  have hK : Back l R p e below s args y 3 8 (PreOf R mc ms Pc) (PostOf Qc mc ms free) := va_backW (hh := hh) (bytes := bytes) (maxL := maxL) (ret := ret) hM hp.1 hrc hrs hfr hlo hws hcw (fun a' U hW => word_at hW (Or.inl (by first | rfl | simp [Cond.onTables, Cond.keeps, Cond.steady])) hini)
  obtain ⟨hx, hb, hml, ho, -⟩ := S
  intro T hT X
  obtain ⟨v, vm₁, ⟨U', l2, c2, s2⟩, hW₁, X', ⟨g', mk, t, L, e1, e2, hq, h1, hL, h2, h3⟩, st⟩ := vx_callSW X hx (hh := hh) (bytes := bytes) (maxL := maxL) (ret := ret) ho hl hstt hini hcode hy hK hg (hsize.trans hml.symm) (argsL := As) (rest := rest) (fun sig h => hn.trans (hlen sig h)) hstack hW (by rw [hb]; exact hdg)
    (fun vm₁ hW₁ => ⟨hf.1, hf.2, hp.2 (T.setVm vm₁) hT hW₁⟩)
  dsimp only [Pt.U, Pt.locs, Pt.cells, Pt.slots] at X' e1 e2 h1 h2 h3 st
  subst h1; subst h2; subst h3
  exact ⟨v, (T.setVm vm₁).calling g' mk As.toArray, t, U', L, hT, X', hL, e1, e2, hq, st⟩
/-- not caught here, past rows that name other classes: it goes on to the caller -/
theorem vx_outP {p : Program} {l : Launch} {e : Env} {R : Room} {s : State} {m : MethodId} {args : Array Value} {below : List Frame} {meth : Method} {c : Code} {H : Heap} {locs : List Loc} {cells slots : Nat} {free : Addr → Prop} {ls : Array Slot} {rest : List Value} {Qc : Array Value → State → Outcome → State → Prop} {XC : String → State → State → Prop}
    {pc : Nat} {own E : String} {ce : Cell} {q : Addr} {mc ms : Nat} (hown : s.vm.findClass own = some m.cls) (hlocks : meth.locks = false)
    (hpass : ∀ z ∈ c.exceptionTable.toList, covers z pc = false ∨ (z.catchType ≠ 0 ∧ ∃ nm : String, (Cond.classLink own z.catchType nm).before args s = true ∧ va_Nc E nm s)) (hcell : H[q]? = some ce) (hv : ce.vm = .none) (hcl : s.vm.findClass E = some ce.cls)
    (hx : ∀ t : State, t.heap = H → s.vm.Alike t.vm → XC E s t) (hf : ∀ z ∈ locs, free z.base) (hc : cells ≤ mc) (hs : slots ≤ ms) :
    vx_W p l e R s m args below meth c H locs cells slots (vx_MQ below Qc XC args s mc ms free) (F0 m pc ls rest) q := by
  intro T hT X
  have hpl : e.platform.magicAccessors = ({} : Platform).magicAccessors := by rw [X.admits.platform]
  obtain ⟨vm', hW', X', st⟩ := X.outThrough hlocks q (g := F0 m pc ls rest) rfl rfl rfl (cell := ce) (by rw [hT]; exact hcell) (by rw [hv]; rfl)
    (by obtain ⟨k9, h9, -⟩ := Vm.findClass_spec hcl; exact ⟨k9, h9⟩) (fun z hz => by
      rcases hpass z hz with h | ⟨hz0, nm, hl1, hn1⟩
      · exact Or.inl h
      · obtain ⟨c6, hc6, hcl6⟩ := Cond.classLink_spec hown hl1 e.platform hpl
        obtain ⟨a8, b8, h1, h2, h3⟩ := hn1
        cases Option.some.inj (h1.symm.trans hcl)
        cases Option.some.inj (h2.symm.trans hc6)
        exact Or.inr ⟨hz0, _, hcl6, h3⟩)
  obtain ⟨g₀, hfr⟩ := X'.frames_eq
  have hcell9 : ((T.setVm vm').setFrames (.throwing q :: below)).heap[q]? = some ce := by
    show T.heap[q]? = some ce
    rw [hT]; exact hcell
  have hend : Ended ((T.setVm vm').setFrames (.throwing q :: below)) below (.threw q) := State.frames_setFrames _ (State.cur_lt_of_frames hfr)
  refine ⟨(T.setVm vm').setFrames (.throwing q :: below), ?_, .threw q, X'.here.running, hend, Or.inr ⟨q, rfl, E, ce, locs, hx _ hT (X'.ends _).1.alike, hcell9, hv, hcl, (X'.ends _).1, (X'.ends _).2.mono hc hs, hf⟩⟩
  rw [X.pushThrowing_eq]
  exact st
/-- a thing of a world lies in the heap -/
theorem vx_lt {D : va_G} {cl : List vw_C} {ws : va_W} {H1 : Heap} (h : va_P D cl ws H1) {k : Nat} {q : Nat × va_E} (hk : ws[k]? = some q) : q.1 < H1.size := (h k q hk).lt
end VXS
/-! ===== END ===== -/
/-! ===== BEGIN methods with a table of their own: called by a name, returning or throwing ===== -/
section VXH
/-! vx_backW, vx_callVX, vx_callSX, vx_callVW, vx_runVW, vx_runVX, vx_runSX, vx_ofWH follow the same proofs as their sisters above (Free/Laws.lean, Shelf42/LK1.lean); vx_outP calls Shelf42/NT130.lean (outThrough). -/
section
variable {l : Launch} {R : Room} {p : Program} {e : Env} {below : List Frame} {s : State} {sargs : Array Value} {y : MethodName} {len W9 : Nat}
theorem vx_backW {ws : List Cond} {rm : Room} {Pc : Array Value → State → Prop} {Qc : Array Value → State → Outcome → State → Prop} {XC : String → State → State → Prop} {mc ms : Nat} {free : Addr → Prop} {bytes : ByteArray} {maxL : Nat} {ret : Option FieldType} {hh : List (Nat × Nat × Nat × Nat)}
    (hM : vx_Met l y ws rm Pc Qc XC mc ms free) (hblind : FrameBlind Pc) (hrc : rm.cells = mc) (hrs : rm.slots = ms)
    (hframes : rm.frames + 1 ≤ R.frames) (hlocals : W9 + (maxL + 11) + rm.locals ≤ R.locals)
    (hws : ∀ w ∈ ws, ∀ a' U, s.WarmedH U.vm → w.before a' U = true) (hcode : Cond.codeWith y bytes maxL ret hh ∈ ws) (hinit : ∀ a' U, s.WarmedH U.vm → (Cond.initialized y.cls).before a' U = true) :
    vx_Back l R p e below s sargs y len W9 (PreOf R mc ms Pc) (PostOf Qc mc ms free) (vx_Post XC mc ms free) := by
  intro m meth c A g ig mk a X hg hsize hdg hW hn hp
  have h1 : (headSpec ws rm).pre.before a A.U = true := atoms_intro fun w hw => hws w hw _ _ X.warmed
  have h2 : (Cond.codeWith y bytes maxL ret hh).before a A.U = true := hws _ hcode _ _ X.warmed
  have h3 : (Cond.initialized y.cls).before a A.U = true := hinit _ _ X.warmed
  have h4 : A.cells + (headSpec ws rm).room.cells ≤ R.cells := by rw [show (headSpec ws rm).room.cells = mc from hrc]; exact hp.1
  have h5 : A.slots + (headSpec ws rm).room.slots ≤ R.slots := by rw [show (headSpec ws rm).room.slots = ms from hrs]; exact hp.2.1
  have hPc : Pc a (A.U.calling g mk a) := hblind _ _ _ _ hp.2.2
  obtain ⟨U, Ls, c0, s0⟩ := A
  dsimp only [Pt.U, Pt.locs, Pt.cells, Pt.slots] at h1 h2 h3 h4 h5 X hn hPc ⊢
  obtain ⟨m9, methY, cY, hn9, hmY, hcY, -, hlY, -⟩ := Cond.codeWith_spec h2
  cases Option.some.inj (hn9.symm.trans hn)
  obtain ⟨kY, hkY, -⟩ := className_of_methodNamed hn
  have hinitY : kY.init = .initialized := Cond.initialized_spec (findClass_of_methodNamed hn) hkY h3
  have h : At U g.method c below := by rw [hg]; exact X.here
  have hlocals9 : W9 + (maxL + 11) + (headSpec ws rm).room.locals ≤ R.locals := hlocals
  have happ : (headSpec ws rm).appliesLoose y e.platform (U.calling g mk a) = true :=
    Spec.appliesLoose_calling (g := g) h hdg hn hkY hinitY
      (X.room_calling (g := g) (R' := (headSpec ws rm).room) hsize hmY hcY hframes (by rw [hlY]; omega) h4 h5) h1
  obtain ⟨mid, hmid⟩ := h.above
  have hfr : (U.setTop g).frames = (.java g :: mid) ++ below := by rw [State.frames_setTop' g h.top, hmid]; rfl
  obtain ⟨o, s₂, hsteps, -, hend, hq⟩ := Steps.callFree hM p X.admits X.cas X.clock (acts := []) hfr happ hPc trivial
  have hq' : vx_Q Qc XC mc ms free a (U.calling g mk a) o s₂ := hq
  rw [State.frames_setTop' g h.top] at hend
  obtain ⟨g₀, hg0⟩ := Option.isSome_iff_exists.mp h.top
  obtain ⟨r, hr⟩ := State.topJava?_eq_some.mp hg0
  have hr' : (({ U with heap := s₂.heap, slotsUsed := s₂.slotsUsed } : State).setVm s₂.vm).frames = .java g₀ :: r := hr
  rcases hq' with ⟨hqc, L, hfe, hL⟩ | ⟨q, rfl, E, ce, L, hx, hce, hcv, hcl, hW₂, hsm, hL⟩
  · obtain ⟨⟨v, rfl⟩, hW₂, e2, q2, q3, q4, q5, q6⟩ := id hfe
    have e3 : s₂ = ({ (U.calling g mk a).setFrames s₂.frames with heap := s₂.heap, slotsUsed := s₂.slotsUsed } : State).setVm s₂.vm := by
      have : s₂ = ({ s₂ with vm := (U.calling g mk a).vm } : State).setVm s₂.vm := rfl
      rw [e2] at this
      exact this
    obtain ⟨c₂, i₂, len₂, hc₂, hd₂, hf₂⟩ := hend
    have hW' : U.WarmedH s₂.vm := hW₂
    have hcc : c₂ = c := by
      have h1 : s₂.code? g.method = U.code? g.method := by
        rw [State.code?_eq, State.code?_eq, hW'.alike.method?]
      exact Option.some.inj (hc₂.symm.trans (h1.trans h.code))
    subst hcc
    have hlen : len₂ = len := by rw [hdg] at hd₂; cases hd₂; rfl
    subst hlen
    have hs₂ : s₂ = (({ U with heap := s₂.heap, slotsUsed := s₂.slotsUsed } : State).setVm s₂.vm).setTop { g with pc := g.pc + len₂, stack := v.toList ++ g.stack } := by
      refine e3.trans ?_
      rw [hf₂, State.calling_eq h.top, State.setFrames_setFrames, State.setTop_of_frames _ hr', hr]
      rfl
    have hsame : U.sameButNew ({ U with heap := s₂.heap, slotsUsed := s₂.slotsUsed } : State) L mc ms := by
      refine ⟨?_, q2, q3, q4, q5, q6⟩
      obtain ⟨t, ht, -⟩ := State.frames_cons hr
      show ({ U with heap := s₂.heap, slotsUsed := s₂.slotsUsed } : State) = { U.setFrames U.frames with heap := s₂.heap, slotsUsed := s₂.slotsUsed }
      rw [State.setFrames_self ht]
    subst hg
    refine Or.inl ⟨v, ⟨(({ U with heap := s₂.heap, slotsUsed := s₂.slotsUsed } : State).setVm s₂.vm), Ls ++ L, c0 + mc, s0 + ms⟩,
      ⟨X.admits, X.cas, X.clock, X.frames, X.room, X.hears, X.method, X.code, (X.here.setHeapUsed s₂.heap s₂.slotsUsed).setVm hW'.alike, X.tail, State.WarmedH.trans X.warmed hW', X.limits, X.bytes, X.same.trans (hsame.setVm s.vm)⟩,
      ⟨g, mk, s₂, L, rfl, rfl, hqc, rfl, hL, rfl, rfl⟩, ?_⟩
    show Steps p.tables e below _ ((({ U with heap := s₂.heap, slotsUsed := s₂.slotsUsed } : State).setVm s₂.vm).setTop { g with pc := g.pc + len₂, stack := v.toList ++ g.stack })
    rw [← hs₂]
    exact hsteps
  · obtain ⟨e2, q2, q3, q4, q5, q6⟩ := id hsm
    have e3 : s₂ = ({ (U.calling g mk a).setFrames s₂.frames with heap := s₂.heap, slotsUsed := s₂.slotsUsed } : State).setVm s₂.vm := by
      have : s₂ = ({ s₂ with vm := (U.calling g mk a).vm } : State).setVm s₂.vm := rfl
      rw [e2] at this
      exact this
    have hf₂ : s₂.frames = .throwing q :: .java g :: U.frames.tail := hend
    have hW' : U.WarmedH s₂.vm := hW₂
    have hs₂ : s₂ = ((({ U with heap := s₂.heap, slotsUsed := s₂.slotsUsed } : State).setVm s₂.vm).setTop g).pushFrame (.throwing q) := by
      refine e3.trans ?_
      rw [hf₂, State.calling_eq h.top, State.setFrames_setFrames, State.pushFrame, State.frames_setTop _ hr', State.setTop_of_frames _ hr', State.setFrames_setFrames, hr]
      rfl
    have hsame : U.sameButNew ({ U with heap := s₂.heap, slotsUsed := s₂.slotsUsed } : State) L mc ms := by
      refine ⟨?_, q2, q3, q4, q5, q6⟩
      obtain ⟨t, ht, -⟩ := State.frames_cons hr
      show ({ U with heap := s₂.heap, slotsUsed := s₂.slotsUsed } : State) = { U.setFrames U.frames with heap := s₂.heap, slotsUsed := s₂.slotsUsed }
      rw [State.setFrames_self ht]
    subst hg
    refine Or.inr ⟨q, ⟨(({ U with heap := s₂.heap, slotsUsed := s₂.slotsUsed } : State).setVm s₂.vm), Ls ++ L, c0 + mc, s0 + ms⟩,
      ⟨X.admits, X.cas, X.clock, X.frames, X.room, X.hears, X.method, X.code, (X.here.setHeapUsed s₂.heap s₂.slotsUsed).setVm hW'.alike, X.tail, State.WarmedH.trans X.warmed hW', X.limits, X.bytes, X.same.trans (hsame.setVm s.vm)⟩,
      ⟨g, mk, s₂, L, E, ce, rfl, rfl, hx, hce, hcv, hcl, rfl, hL, rfl, rfl⟩, ?_⟩
    show Steps p.tables e below _ (((({ U with heap := s₂.heap, slotsUsed := s₂.slotsUsed } : State).setVm s₂.vm).setTop g).pushFrame (.throwing q))
    rw [← hs₂]
    exact hsteps
end
variable {p : Program} {l : Launch} {e : Env} {R : Room} {s : State} {m : MethodId} {args : Array Value} {below : List Frame} {meth : Method} {c : Code} {T : State} {H : Heap} {locs : List Loc} {cells slots : Nat}
theorem vx_callVX (X : Stand p l e R s m args below meth c T locs cells slots) (hexec : p.tables.exec = Jvm.exec) {own C : String} {index : Nat} {y : MethodName} {bytes : ByteArray} {maxL : Nat} {ret : Option FieldType} {hh : List (Nat × Nat × Nat × Nat)}
    (hown : s.vm.findClass own = some m.cls) (hlink : (Cond.methodLink own index y).before args s = true) (hinst : (Cond.instanceMethod y).before args s = true) (hsel : (Cond.selects C y y).before args s = true)
    (hcode : (Cond.codeWith y bytes maxL ret hh).before args s = true) (hy : y.cls ≠ "java/lang/invoke/MethodHandle" ∧ y.cls ≠ "java/lang/invoke/VarHandle")
    {W9 : Nat} {Pre : Pt → Array Value → Prop} {Post : Pt → Array Value → Option Value → Pt → Prop} {PostX : Pt → Array Value → Addr → Pt → Prop} (hK : vx_Back l R p e below s args y 3 W9 Pre Post PostX)
    {b : Addr} {cellB : Cell} (hcell : T.heap[b]? = some cellB) (hobj : cellB.vm.isStatics = false) (hcls : s.vm.findClass C = some cellB.cls)
    {g : JFrame} (hg : g.method = m) (hsize : g.locals.size = c.maxLocals) {argsL rest : List Value} (hlen : ∀ sig, parseMethodDescriptor y.desc = some sig → argsL.length = sig.parameters.length)
    (hstack : g.stack = argsL.reverse ++ .ref b :: rest) (hW : 2 * g.monitorRoom + (rest.map fun v => v.category).sum ≤ W9) (hdg : decode c.code g.pc = .ok (.invokevirtual index, 3))
    (hpre : ∀ vm₁, s.WarmedH vm₁ → Pre ⟨T.setVm vm₁, locs, cells, slots⟩ (Value.ref b :: argsL).toArray) :
    (∃ (v : Option Value) (vm₁ : Vm) (B : Pt), s.WarmedH vm₁ ∧ Stand p l e R s m args below meth c B.U B.locs B.cells B.slots ∧ Post ⟨T.setVm vm₁, locs, cells, slots⟩ (Value.ref b :: argsL).toArray v B ∧
      ∀ target, Steps p.tables e below (B.U.setTop { g with pc := g.pc + 3, stack := v.toList ++ rest }) target → Steps p.tables e below (T.setTop g) target) ∨
    (∃ (q : Addr) (vm₁ : Vm) (B : Pt), s.WarmedH vm₁ ∧ Stand p l e R s m args below meth c B.U B.locs B.cells B.slots ∧ PostX ⟨T.setVm vm₁, locs, cells, slots⟩ (Value.ref b :: argsL).toArray q B ∧
      Steps p.tables e below (T.setTop g) ((B.U.setTop { g with stack := rest }).pushFrame (.throwing q))) := by
  obtain ⟨mk, methM, hnamed, hmethM, hstM, habM⟩ := Cond.instanceMethod_spec hinst
  obtain ⟨m8, methM', cM, hn8, hmethM', -, -, -, -, -, -, hsigM⟩ := Cond.codeWith_spec hcode
  cases Option.some.inj (hn8.symm.trans hnamed)
  cases hmethM.symm.trans hmethM'
  obtain ⟨c2, r2, m2, q1, q2, q3, q4, kP, hkP, hkPi⟩ := Cond.selects_spec hsel
  cases hcls.symm.trans q1
  cases (State.methodFound?_of_named hnamed hy).symm.trans q2
  cases hnamed.symm.trans q3
  have hselP : selectMethod e.platform s.vm cellB.cls mk = .method mk := by rw [Launch.admits_selectMethod X.admits]; exact q4
  obtain ⟨vm₁, X₁, hstep₁⟩ := X.invokevirtual hexec hown hlink hnamed hmethM hstM hkP hkPi hy (a := b) (cell := cellB) hcell
    (fun z h => by rw [h] at hobj; cases hobj) hselP hmethM habM hkP hkPi (g := g) hg (argsL := argsL) (rest := rest) (hlen _ hsigM) hstack hdg
  rcases hK m meth c ⟨T.setVm vm₁, locs, cells, slots⟩ { g with stack := rest } (.invokevirtual index) mk (Value.ref b :: argsL).toArray X₁ hg hsize hdg hW (X₁.named hnamed) (hpre vm₁ X₁.warmed) with ⟨v, B, X', hpost, hsteps⟩ | ⟨q, B, X', hpost, hsteps⟩
  · exact Or.inl ⟨v, vm₁, B, X₁.warmed, X', hpost, fun target h => hstep₁ _ fun acts => by rw [doInvoke_state]; exact hsteps.trans h⟩
  · exact Or.inr ⟨q, vm₁, B, X₁.warmed, X', hpost, hstep₁ _ fun acts => by rw [doInvoke_state]; exact hsteps⟩
theorem vx_callSX (X : Stand p l e R s m args below meth c T locs cells slots) (hexec : p.tables.exec = Jvm.exec) {own : String} {index : Nat} {y : MethodName} {bytes : ByteArray} {maxL : Nat} {ret : Option FieldType} {hh : List (Nat × Nat × Nat × Nat)}
    (hown : s.vm.findClass own = some m.cls) (hlink : (Cond.methodLink own index y).before args s = true) (hstat : (Cond.static y).before args s = true) (hinit : (Cond.initialized y.cls).before args s = true)
    (hcode : (Cond.codeWith y bytes maxL ret hh).before args s = true) (hy : y.cls ≠ "java/lang/invoke/MethodHandle" ∧ y.cls ≠ "java/lang/invoke/VarHandle")
    {W9 : Nat} {Pre : Pt → Array Value → Prop} {Post : Pt → Array Value → Option Value → Pt → Prop} {PostX : Pt → Array Value → Addr → Pt → Prop} (hK : vx_Back l R p e below s args y 3 W9 Pre Post PostX)
    {g : JFrame} (hg : g.method = m) (hsize : g.locals.size = c.maxLocals) {argsL rest : List Value} (hlen : ∀ sig, parseMethodDescriptor y.desc = some sig → argsL.length = sig.parameters.length)
    (hstack : g.stack = argsL.reverse ++ rest) (hW : 2 * g.monitorRoom + (rest.map fun v => v.category).sum ≤ W9) (hdg : decode c.code g.pc = .ok (.invokestatic index, 3))
    (hpre : ∀ vm₁, s.WarmedH vm₁ → Pre ⟨T.setVm vm₁, locs, cells, slots⟩ argsL.toArray) :
    (∃ (v : Option Value) (vm₁ : Vm) (B : Pt), s.WarmedH vm₁ ∧ Stand p l e R s m args below meth c B.U B.locs B.cells B.slots ∧ Post ⟨T.setVm vm₁, locs, cells, slots⟩ argsL.toArray v B ∧
      ∀ target, Steps p.tables e below (B.U.setTop { g with pc := g.pc + 3, stack := v.toList ++ rest }) target → Steps p.tables e below (T.setTop g) target) ∨
    (∃ (q : Addr) (vm₁ : Vm) (B : Pt), s.WarmedH vm₁ ∧ Stand p l e R s m args below meth c B.U B.locs B.cells B.slots ∧ PostX ⟨T.setVm vm₁, locs, cells, slots⟩ argsL.toArray q B ∧
      Steps p.tables e below (T.setTop g) ((B.U.setTop { g with stack := rest }).pushFrame (.throwing q))) := by
  obtain ⟨mk, methM, cM, hnamed, hmethM, -, -, -, -, -, -, hsigM⟩ := Cond.codeWith_spec hcode
  have hstatic : methM.isStatic = true := Cond.static_spec hnamed hmethM hstat
  obtain ⟨kP, hkP, -⟩ := className_of_methodNamed hnamed
  have hinitP : kP.init = .initialized := Cond.initialized_spec (findClass_of_methodNamed hnamed) hkP hinit
  obtain ⟨vm₁, X₁, hstep₁⟩ := X.invokestatic hexec hown hlink hnamed hmethM hstatic hkP hinitP hy (g := g) hg (argsL := argsL) (rest := rest) (hlen _ hsigM) hstack hdg
  rcases hK m meth c ⟨T.setVm vm₁, locs, cells, slots⟩ { g with stack := rest } (.invokestatic index) mk argsL.toArray X₁ hg hsize hdg hW (X₁.named hnamed) (hpre vm₁ X₁.warmed) with ⟨v, B, X', hpost, hsteps⟩ | ⟨q, B, X', hpost, hsteps⟩
  · exact Or.inl ⟨v, vm₁, B, X₁.warmed, X', hpost, fun target h => hstep₁ _ fun acts => by rw [doInvoke_state]; exact hsteps.trans h⟩
  · exact Or.inr ⟨q, vm₁, B, X₁.warmed, X', hpost, hstep₁ _ fun acts => by rw [doInvoke_state]; exact hsteps⟩
theorem vx_callVW (X : Stand p l e R s m args below meth c T locs cells slots) (hexec : p.tables.exec = Jvm.exec) {own C : String} {index : Nat} {y : MethodName} {bytes : ByteArray} {maxL : Nat} {ret : Option FieldType} {hh : List (Nat × Nat × Nat × Nat)}
    (hown : s.vm.findClass own = some m.cls) (hlink : (Cond.methodLink own index y).before args s = true) (hinst : (Cond.instanceMethod y).before args s = true) (hsel : (Cond.selects C y y).before args s = true)
    (hcode : (Cond.codeWith y bytes maxL ret hh).before args s = true) (hy : y.cls ≠ "java/lang/invoke/MethodHandle" ∧ y.cls ≠ "java/lang/invoke/VarHandle")
    {W9 : Nat} {Pre : Pt → Array Value → Prop} {Post : Pt → Array Value → Option Value → Pt → Prop} (hK : Back l R p e below s args y 3 W9 Pre Post)
    {b : Addr} {cellB : Cell} (hcell : T.heap[b]? = some cellB) (hobj : cellB.vm.isStatics = false) (hcls : s.vm.findClass C = some cellB.cls)
    {g : JFrame} (hg : g.method = m) (hsize : g.locals.size = c.maxLocals) {argsL rest : List Value} (hlen : ∀ sig, parseMethodDescriptor y.desc = some sig → argsL.length = sig.parameters.length)
    (hstack : g.stack = argsL.reverse ++ .ref b :: rest) (hW : 2 * g.monitorRoom + (rest.map fun v => v.category).sum ≤ W9) (hdg : decode c.code g.pc = .ok (.invokevirtual index, 3))
    (hpre : ∀ vm₁, s.WarmedH vm₁ → Pre ⟨T.setVm vm₁, locs, cells, slots⟩ (Value.ref b :: argsL).toArray) :
    ∃ (v : Option Value) (vm₁ : Vm) (B : Pt), s.WarmedH vm₁ ∧ Stand p l e R s m args below meth c B.U B.locs B.cells B.slots ∧ Post ⟨T.setVm vm₁, locs, cells, slots⟩ (Value.ref b :: argsL).toArray v B ∧
      ∀ target, Steps p.tables e below (B.U.setTop { g with pc := g.pc + 3, stack := v.toList ++ rest }) target → Steps p.tables e below (T.setTop g) target := by
  obtain ⟨mk, methM, hnamed, hmethM, hstM, habM⟩ := Cond.instanceMethod_spec hinst
  obtain ⟨m8, methM', cM, hn8, hmethM', -, -, -, -, -, -, hsigM⟩ := Cond.codeWith_spec hcode
  cases Option.some.inj (hn8.symm.trans hnamed)
  cases hmethM.symm.trans hmethM'
  obtain ⟨c2, r2, m2, q1, q2, q3, q4, kP, hkP, hkPi⟩ := Cond.selects_spec hsel
  cases hcls.symm.trans q1
  cases (State.methodFound?_of_named hnamed hy).symm.trans q2
  cases hnamed.symm.trans q3
  have hselP : selectMethod e.platform s.vm cellB.cls mk = .method mk := by rw [Launch.admits_selectMethod X.admits]; exact q4
  obtain ⟨vm₁, X₁, hstep₁⟩ := X.invokevirtual hexec hown hlink hnamed hmethM hstM hkP hkPi hy (a := b) (cell := cellB) hcell
    (fun z h => by rw [h] at hobj; cases hobj) hselP hmethM habM hkP hkPi (g := g) hg (argsL := argsL) (rest := rest) (hlen _ hsigM) hstack hdg
  obtain ⟨v, B, X', hpost, hsteps⟩ := hK m meth c ⟨T.setVm vm₁, locs, cells, slots⟩ { g with stack := rest } (.invokevirtual index) mk (Value.ref b :: argsL).toArray X₁ hg hsize hdg hW (X₁.named hnamed) (hpre vm₁ X₁.warmed)
  exact ⟨v, vm₁, B, X₁.warmed, X', hpost, fun target h => hstep₁ _ fun acts => by rw [doInvoke_state]; exact hsteps.trans h⟩
abbrev vx_CVW (R : Room) (s : State) (args : Array Value) (own C : String) (index : Nat) (y : MethodName) (bytes : ByteArray) (maxL : Nat) (ret : Option FieldType) (hh : List (Nat × Nat × Nat × Nat)) (ws : List Cond) (rm : Room) (mc ms n : Nat) : Prop :=
  (rm.cells = mc ∧ rm.slots = ms ∧ rm.frames + 1 ≤ R.frames ∧ 8 + (maxL + 11) + rm.locals ≤ R.locals ∧ (∀ w ∈ ws, ∀ (a' : Array Value) (U : State), s.WarmedH U.vm → w.before a' U = true) ∧ Cond.codeWith y bytes maxL ret hh ∈ ws) ∧
  (Cond.codeWith y bytes maxL ret hh).before args s = true ∧ (Cond.initialized y.cls).before args s = true ∧ (y.cls ≠ "java/lang/invoke/MethodHandle" ∧ y.cls ≠ "java/lang/invoke/VarHandle") ∧
  (∀ sig, parseMethodDescriptor y.desc = some sig → n = sig.parameters.length) ∧ (Cond.methodLink own index y).before args s = true ∧ (Cond.instanceMethod y).before args s = true ∧ (Cond.selects C y y).before args s = true
theorem vx_cwVW {own C : String} {index maxL mc ms : Nat} {y : MethodName} {bytes : ByteArray} {ret : Option FieldType} {hh : List (Nat × Nat × Nat × Nat)} {Ts ws ws' : List Cond} {rm : Room} (n : Nat) (ht : ∀ w ∈ Ts, w.before args s = true) (hT : GoodIn Ts (wsV own index C y ws)) (hw : ws = Cond.codeWith y bytes maxL ret hh :: ws') (hrc : rm.cells = mc) (hrs : rm.slots = ms)
    (hd : y.cls = C ∧ y.cls ≠ "java/lang/invoke/MethodHandle" ∧ y.cls ≠ "java/lang/invoke/VarHandle" ∧ (parseMethodDescriptor y.desc).map (fun d => d.parameters.length) = some n) (hR : rm.frames + 1 ≤ R.frames ∧ 8 + (maxL + 11) + rm.locals ≤ R.locals) :
    vx_CVW R s args own C index y bytes maxL ret hh ws rm mc ms n := by
  obtain ⟨hC, hd⟩ := hd
  subst hC
  have ok : ∀ w ∈ wsV own index y.cls y ws, w.before args s = true := fun w h => ht w (hT w h).1
  have hG : GoodIn Ts ws := fun w h => hT w (by unfold wsV; exact List.mem_append_right _ h)
  have hc : Cond.codeWith y bytes maxL ret hh ∈ ws := by rw [hw]; exact List.mem_cons_self
  refine ⟨⟨hrc, hrs, hR.1, hR.2, pay_in ht hG, hc⟩, ht _ (hG _ hc).1, ok _ (by simp [wsV]), ⟨hd.1, hd.2.1⟩, fun sig h => ?_, ok _ (by simp [wsV]), ok _ (by simp [wsV]), ok _ (by simp [wsV])⟩
  have h2 := hd.2.2
  rw [h] at h2
  exact (Option.some.inj h2).symm
theorem vx_runVW {y : MethodName} {bytes cc : ByteArray} {maxL nL mc ms n index : Nat} {ret : Option FieldType} {hh : List (Nat × Nat × Nat × Nat)} {ws : List Cond} {rm : Room} {Pc : Array Value → State → Prop} {Qc : Array Value → State → Outcome → State → Prop} {free : Addr → Prop} {Ts : List Cond} {own C : String} {b : Addr} {As rest : List Value} {g : JFrame}
    (S : CallFix p m c cc nL s args Ts own) (hM : Met l y ws rm Pc Qc mc ms free) (cw : vx_CVW R s args own C index y bytes maxL ret hh ws rm mc ms n) (hp : PreV s H C b Pc As)
    (hg : g.method = m) (hn : As.length = n) (hsize : g.locals.size = nL) (hstack : g.stack = As.reverse ++ .ref b :: rest) (hW : 2 * g.monitorRoom + (rest.map fun v => v.category).sum ≤ 8) (hdg : decode cc g.pc = .ok (.invokevirtual index, 3)) (hf : cells + mc ≤ R.cells ∧ slots + ms ≤ R.slots) :
    va_Run p l e R s m args below meth c H locs cells slots mc ms g rest (Qc (Value.ref b :: As).toArray) free := by
  obtain ⟨⟨hrc, hrs, hfr, hlo, hws, hcw⟩, hcode, hini, hy, hlen, hl, hin, hse⟩ := cw
  have hK : Back l R p e below s args y 3 8 (PreOf R mc ms Pc) (PostOf Qc mc ms free) := va_backW (hh := hh) (bytes := bytes) (maxL := maxL) (ret := ret) hM hp.1 hrc hrs hfr hlo hws hcw (fun a' U hW => word_at hW (Or.inl (by first | rfl | simp [Cond.onTables, Cond.keeps, Cond.steady])) hini)
  obtain ⟨hx, hb, hml, ho, -⟩ := S
  obtain ⟨-, ⟨cellB, hcB, hoB, hclB⟩, hPc⟩ := hp
  intro T hT X
  obtain ⟨v, vm₁, ⟨U', l2, c2, s2⟩, hW₁, X', ⟨g', mk, t, L, e1, e2, hq, h1, hL, h2, h3⟩, st⟩ := vx_callVW X hx (C := C) (hh := hh) (bytes := bytes) (maxL := maxL) (ret := ret) ho hl hin hse hcode hy hK (by rw [hT]; exact hcB) hoB hclB hg (hsize.trans hml.symm) (argsL := As) (rest := rest) (fun sig h => hn.trans (hlen sig h)) hstack hW (by rw [hb]; exact hdg)
    (fun vm₁ hW₁ => ⟨hf.1, hf.2, hPc (T.setVm vm₁) hT hW₁⟩)
  dsimp only [Pt.U, Pt.locs, Pt.cells, Pt.slots] at X' e1 e2 h1 h2 h3 st
  subst h1; subst h2; subst h3
  exact ⟨v, (T.setVm vm₁).calling g' mk (Value.ref b :: As).toArray, t, U', L, hT, X', hL, e1, e2, hq, st⟩
section
variable {y : MethodName} {bytes cc : ByteArray} {maxL nL mc ms n index : Nat} {ret : Option FieldType} {ws : List Cond} {rm : Room} {Pc : Array Value → State → Prop} {Qc : Array Value → State → Outcome → State → Prop} {XC : String → State → State → Prop} {free : Addr → Prop} {Ts : List Cond} {own C : String} {b : Addr} {As rest : List Value} {g : JFrame}
theorem vx_runVX {hh : List (Nat × Nat × Nat × Nat)} (S : CallFix p m c cc nL s args Ts own) (hM : vx_Met l y ws rm Pc Qc XC mc ms free) (cw : vx_CVW R s args own C index y bytes maxL ret hh ws rm mc ms n) (hp : PreV s H C b Pc As)
    (hg : g.method = m) (hn : As.length = n) (hsize : g.locals.size = nL) (hstack : g.stack = As.reverse ++ .ref b :: rest) (hW : 2 * g.monitorRoom + (rest.map fun v => v.category).sum ≤ 8) (hdg : decode cc g.pc = .ok (.invokevirtual index, 3)) (hf : cells + mc ≤ R.cells ∧ slots + ms ≤ R.slots) :
    vx_Run p l e R s m args below meth c H locs cells slots mc ms g rest (Qc (Value.ref b :: As).toArray) XC free := by
  obtain ⟨⟨hrc, hrs, hfr, hlo, hws, hcw⟩, hcode, hini, hy, hlen, hl, hin, hse⟩ := cw
  have hK : vx_Back l R p e below s args y 3 8 (PreOf R mc ms Pc) (PostOf Qc mc ms free) (vx_Post XC mc ms free) := vx_backW (hh := hh) (bytes := bytes) (maxL := maxL) (ret := ret) hM hp.1 hrc hrs hfr hlo hws hcw (fun a' U hW => word_at hW (Or.inl (by first | rfl | simp [Cond.onTables, Cond.keeps, Cond.steady])) hini)
  obtain ⟨hx, hb, hml, ho, -⟩ := S
  obtain ⟨-, ⟨cellB, hcB, hoB, hclB⟩, hPc⟩ := hp
  intro T hT X
  rcases vx_callVX X hx (C := C) (hh := hh) (bytes := bytes) (maxL := maxL) (ret := ret) ho hl hin hse hcode hy hK (by rw [hT]; exact hcB) hoB hclB hg (hsize.trans hml.symm) (argsL := As) (rest := rest) (fun sig h => hn.trans (hlen sig h)) hstack hW (by rw [hb]; exact hdg)
    (fun vm₁ hW₁ => ⟨hf.1, hf.2, hPc (T.setVm vm₁) hT hW₁⟩) with ⟨v, vm₁, ⟨U', l2, c2, s2⟩, hW₁, X', ⟨g', mk, t, L, e1, e2, hq, h1, hL, h2, h3⟩, st⟩ | ⟨q, vm₁, ⟨U', l2, c2, s2⟩, hW₁, X', ⟨g', mk, t, L, E, ce, e1, e2, hq, hce, hcv, hcl, h1, hL, h2, h3⟩, st⟩
  · dsimp only [Pt.U, Pt.locs, Pt.cells, Pt.slots] at X' e1 e2 h1 h2 h3 st
    subst h1; subst h2; subst h3
    exact Or.inl ⟨v, (T.setVm vm₁).calling g' mk (Value.ref b :: As).toArray, t, U', L, hT, X', hL, e1, e2, hq, st⟩
  · dsimp only [Pt.U, Pt.locs, Pt.cells, Pt.slots] at X' e1 e2 h1 h2 h3 st hcl
    subst h1; subst h2; subst h3
    exact Or.inr ⟨q, (T.setVm vm₁).calling g' mk (Value.ref b :: As).toArray, t, U', L, E, ce, hT, X', hL, e1, e2, hq, hce, hcv, vx_cls hW₁ hcl, st⟩
theorem vx_runSX {hh : List (Nat × Nat × Nat × Nat)} (S : CallFix p m c cc nL s args Ts own) (hM : vx_Met l y ws rm Pc Qc XC mc ms free) (cw : vx_CSW R s args own index y bytes maxL ret hh ws rm mc ms n) (hp : PreS s H Pc As)
    (hg : g.method = m) (hn : As.length = n) (hsize : g.locals.size = nL) (hstack : g.stack = As.reverse ++ rest) (hW : 2 * g.monitorRoom + (rest.map fun v => v.category).sum ≤ 8) (hdg : decode cc g.pc = .ok (.invokestatic index, 3)) (hf : cells + mc ≤ R.cells ∧ slots + ms ≤ R.slots) :
    vx_Run p l e R s m args below meth c H locs cells slots mc ms g rest (Qc As.toArray) XC free := by
  obtain ⟨⟨hrc, hrs, hfr, hlo, hws, hcw⟩, hcode, hini, hy, hlen, hl, hstt⟩ := cw
  have hK : vx_Back l R p e below s args y 3 8 (PreOf R mc ms Pc) (PostOf Qc mc ms free) (vx_Post XC mc ms free) := vx_backW (hh := hh) (bytes := bytes) (maxL := maxL) (ret := ret) hM hp.1 hrc hrs hfr hlo hws hcw (fun a' U hW => word_at hW (Or.inl (by first | rfl | simp [Cond.onTables, Cond.keeps, Cond.steady])) hini)
  obtain ⟨hx, hb, hml, ho, -⟩ := S
  intro T hT X
  rcases vx_callSX X hx (hh := hh) (bytes := bytes) (maxL := maxL) (ret := ret) ho hl hstt hini hcode hy hK hg (hsize.trans hml.symm) (argsL := As) (rest := rest) (fun sig h => hn.trans (hlen sig h)) hstack hW (by rw [hb]; exact hdg)
    (fun vm₁ hW₁ => ⟨hf.1, hf.2, hp.2 (T.setVm vm₁) hT hW₁⟩) with ⟨v, vm₁, ⟨U', l2, c2, s2⟩, hW₁, X', ⟨g', mk, t, L, e1, e2, hq, h1, hL, h2, h3⟩, st⟩ | ⟨q, vm₁, ⟨U', l2, c2, s2⟩, hW₁, X', ⟨g', mk, t, L, E, ce, e1, e2, hq, hce, hcv, hcl, h1, hL, h2, h3⟩, st⟩
  · dsimp only [Pt.U, Pt.locs, Pt.cells, Pt.slots] at X' e1 e2 h1 h2 h3 st
    subst h1; subst h2; subst h3
    exact Or.inl ⟨v, (T.setVm vm₁).calling g' mk As.toArray, t, U', L, hT, X', hL, e1, e2, hq, st⟩
  · dsimp only [Pt.U, Pt.locs, Pt.cells, Pt.slots] at X' e1 e2 h1 h2 h3 st hcl
    subst h1; subst h2; subst h3
    exact Or.inr ⟨q, (T.setVm vm₁).calling g' mk As.toArray, t, U', L, E, ce, hT, X', hL, e1, e2, hq, hce, hcv, vx_cls hW₁ hcl, st⟩
end
end VXH
theorem vx_ofWH {l : Launch} {y : MethodName} {ws ws' : List Cond} {rm : Room} {Pc : Array Value → State → Prop} {Qc : Array Value → State → Outcome → State → Prop} {XC : String → State → State → Prop} {mc ms : Nat} {free : Addr → Prop} {cc : ByteArray} {maxL : Nat} {ret : Option FieldType} {hh : List (Nat × Nat × Nat × Nat)}
    (hy : plainName y.cls = true) (hw : ws = Cond.codeWith y cc maxL ret hh :: ws')
    (body : ∀ p e s m args below meth c s₁, BodyLoose p l y (headSpec ws rm) cc maxL ret e s m args below meth c s₁ → c.maxLocals = maxL → Pc args s →
      W p l e (headSpec ws rm).room s m args below meth c s.heap [] 0 0 (vx_MQ below Qc XC args s mc ms free) (entryFrame m args maxL)) : vx_Met l y ws rm Pc Qc XC mc ms free := by
  refine MetFree.of_bodyS (code := cc) (maxLocals := maxL) (ret := ret) hy ?_ ?_
  · intro args s m h hn
    obtain ⟨m9, meth, c, hn9, h1, h2, h3, h4, -, h5, h6, -⟩ := Cond.codeWith_spec (atoms_spec (ws := ws) h _ (by rw [hw]; exact List.mem_cons_self))
    cases hn.symm.trans hn9
    exact ⟨meth, c, h1, h2, h3, h4, h5, h6⟩
  · intro p e s m args below meth c s₁ B hml hP _
    have hh0 : s₁.heap = s.heap := by rw [B.state]; rfl
    obtain ⟨t, a1, o, b1, b2, b3⟩ := body p e s m args below meth c s₁ B hml hP s₁ hh0 (Stand.of_body B)
    exact ⟨t, o, a1, b1, b2, b3⟩
/-! ===== END ===== -/
end
section
def RX0 : String := "BufferLoans$Desk"
def TX0 : u_T := fun k => match k with
  | 0 => ("BufferLoans$Desk", "projects", "LBufferLoans$Table;", true)
  | 1 => ("BufferLoans$Desk", "tasks", "LBufferLoans$Table;", true)
  | 2 => ("BufferLoans$Desk", "loans", "LBufferLoans$Table;", true)
  | 3 => ("BufferLoans$Desk", "settings", "LBufferLoans$Table;", true)
  | 4 => ("BufferLoans$Desk", "queue", "LBufferLoans$Table;", true)
  | 5 => ("BufferLoans$Desk", "projectCount", "I", false)
  | _ => ("BufferLoans$Desk", "loanCount", "I", false)
def tyX0 : Nat → FieldType := fun k => match k with
  | 0 => .object "BufferLoans$Table"
  | 1 => .object "BufferLoans$Table"
  | 2 => .object "BufferLoans$Table"
  | 3 => .object "BufferLoans$Table"
  | 4 => .object "BufferLoans$Table"
  | 5 => .int
  | _ => .int
abbrev wsX00 : List Cond := u_ws RX0 TX0 7
theorem nmX0 : ∀ a, a < 7 → ∀ b, b < 7 → a ≠ b → (TX0 a).2.1 ≠ (TX0 b).2.1 := by decide +kernel
theorem tyX0_ok : ∀ k, k < 7 → parseFieldDescriptor (TX0 k).2.2.1 = some (tyX0 k) := by decide +kernel
abbrev cX0_init : ByteArray := prog_2_method_1_code
def yX0_init : MethodName := ⟨RX0, "<init>", "()V"⟩
abbrev cX0_copyFrom : ByteArray := prog_2_method_2_code
def yX0_copyFrom : MethodName := ⟨RX0, "copyFrom", "(LBufferLoans$Desk;)V"⟩
abbrev cX0_projects : ByteArray := prog_2_method_3_code
def yX0_projects : MethodName := ⟨RX0, "projects", "()I"⟩
abbrev cX0_loans : ByteArray := prog_2_method_4_code
def yX0_loans : MethodName := ⟨RX0, "loans", "()I"⟩
abbrev cX0_isOpen : ByteArray := prog_2_method_5_code
def yX0_isOpen : MethodName := ⟨RX0, "isOpen", "(I)Z"⟩
abbrev cX0_hasNextTask : ByteArray := prog_2_method_6_code
def yX0_hasNextTask : MethodName := ⟨RX0, "hasNextTask", "(I)Z"⟩
abbrev cX0_projectPart : ByteArray := prog_2_method_7_code
def yX0_projectPart : MethodName := ⟨RX0, "projectPart", "(II)I"⟩
abbrev cX0_taskPart : ByteArray := prog_2_method_8_code
def yX0_taskPart : MethodName := ⟨RX0, "taskPart", "(III)I"⟩
abbrev cX0_loanPart : ByteArray := prog_2_method_9_code
def yX0_loanPart : MethodName := ⟨RX0, "loanPart", "(II)I"⟩
abbrev cX0_valueOf : ByteArray := prog_2_method_10_code
def yX0_valueOf : MethodName := ⟨RX0, "valueOf", "(I)I"⟩
abbrev cX0_changeSetting : ByteArray := prog_2_method_11_code
def yX0_changeSetting : MethodName := ⟨RX0, "changeSetting", "(II)I"⟩
abbrev cX0_changeRank : ByteArray := prog_2_method_12_code
def yX0_changeRank : MethodName := ⟨RX0, "changeRank", "(II)I"⟩
abbrev cX0_addProject : ByteArray := prog_2_method_13_code
def yX0_addProject : MethodName := ⟨RX0, "addProject", "(II)I"⟩
abbrev cX0_addTask : ByteArray := prog_2_method_14_code
def yX0_addTask : MethodName := ⟨RX0, "addTask", "(II)I"⟩
abbrev cX0_rowOfTask : ByteArray := prog_2_method_15_code
def yX0_rowOfTask : MethodName := ⟨RX0, "rowOfTask", "(II)I"⟩
abbrev cX0_sumOfProjects : ByteArray := prog_2_method_16_code
def yX0_sumOfProjects : MethodName := ⟨RX0, "sumOfProjects", "(I)I"⟩
abbrev cX0_delayOfTasks : ByteArray := prog_2_method_17_code
def yX0_delayOfTasks : MethodName := ⟨RX0, "delayOfTasks", "()I"⟩
abbrev cX0_leastDaysLeft : ByteArray := prog_2_method_18_code
def yX0_leastDaysLeft : MethodName := ⟨RX0, "leastDaysLeft", "()I"⟩
abbrev cX0_doNextTask : ByteArray := prog_2_method_19_code
def yX0_doNextTask : MethodName := ⟨RX0, "doNextTask", "(II)I"⟩
abbrev cX0_useDays : ByteArray := prog_2_method_20_code
def yX0_useDays : MethodName := ⟨RX0, "useDays", "(II)V"⟩
abbrev cX0_callBack : ByteArray := prog_2_method_21_code
def yX0_callBack : MethodName := ⟨RX0, "callBack", "(II)I"⟩
abbrev cX0_borrow : ByteArray := prog_2_method_22_code
def yX0_borrow : MethodName := ⟨RX0, "borrow", "(II)I"⟩
abbrev cX0_lenderAt : ByteArray := prog_2_method_23_code
def yX0_lenderAt : MethodName := ⟨RX0, "lenderAt", "(II)I"⟩
abbrev cX0_queueLenders : ByteArray := prog_2_method_24_code
def yX0_queueLenders : MethodName := ⟨RX0, "queueLenders", "(I)I"⟩
abbrev cX0_weightOfLender : ByteArray := prog_2_method_25_code
def yX0_weightOfLender : MethodName := ⟨RX0, "weightOfLender", "(II)I"⟩
abbrev cX0_lendableDays : ByteArray := prog_2_method_26_code
def yX0_lendableDays : MethodName := ⟨RX0, "lendableDays", "(II)I"⟩
abbrev cX0_placeOfLoan : ByteArray := prog_2_method_27_code
def yX0_placeOfLoan : MethodName := ⟨RX0, "placeOfLoan", "(II)I"⟩
abbrev cX0_daysOwed : ByteArray := prog_2_method_28_code
def yX0_daysOwed : MethodName := ⟨RX0, "daysOwed", "(II)I"⟩
abbrev cX0_lendDays : ByteArray := prog_2_method_29_code
def yX0_lendDays : MethodName := ⟨RX0, "lendDays", "(III)V"⟩
abbrev cX0_payLoan : ByteArray := prog_2_method_30_code
def yX0_payLoan : MethodName := ⟨RX0, "payLoan", "(II)V"⟩
abbrev cX0_changeLoan : ByteArray := prog_2_method_31_code
def yX0_changeLoan : MethodName := ⟨RX0, "changeLoan", "(II)V"⟩
abbrev cX0_moveDays : ByteArray := prog_2_method_32_code
def yX0_moveDays : MethodName := ⟨RX0, "moveDays", "(III)V"⟩
abbrev cX0_repay : ByteArray := prog_2_method_33_code
def yX0_repay : MethodName := ⟨RX0, "repay", "(II)V"⟩
abbrev cX0_closeProject : ByteArray := prog_2_method_34_code
def yX0_closeProject : MethodName := ⟨RX0, "closeProject", "(I)I"⟩
abbrev cX0_writeOff : ByteArray := prog_2_method_35_code
def yX0_writeOff : MethodName := ⟨RX0, "writeOff", "(I)I"⟩
abbrev cX0_bearableDelay : ByteArray := prog_2_method_36_code
def yX0_bearableDelay : MethodName := ⟨RX0, "bearableDelay", "(I)I"⟩
abbrev cX0_weakestProject : ByteArray := prog_2_method_37_code
def yX0_weakestProject : MethodName := ⟨RX0, "weakestProject", "()I"⟩
def RX1 : String := "BufferLoans$History"
def TX1 : u_T := fun k => match k with
  | 0 => ("BufferLoans$History", "slots", "[LBufferLoans$Desk;", true)
  | 1 => ("BufferLoans$History", "next", "I", false)
  | _ => ("BufferLoans$History", "size", "I", false)
def tyX1 : Nat → FieldType := fun k => match k with
  | 0 => .array (.object "BufferLoans$Desk")
  | 1 => .int
  | _ => .int
abbrev wsX10 : List Cond := u_ws RX1 TX1 3
theorem nmX1 : ∀ a, a < 3 → ∀ b, b < 3 → a ≠ b → (TX1 a).2.1 ≠ (TX1 b).2.1 := by decide +kernel
theorem tyX1_ok : ∀ k, k < 3 → parseFieldDescriptor (TX1 k).2.2.1 = some (tyX1 k) := by decide +kernel
abbrev cX1_init : ByteArray := prog_3_method_1_code
def yX1_init : MethodName := ⟨RX1, "<init>", "()V"⟩
abbrev cX1_size : ByteArray := prog_3_method_2_code
def yX1_size : MethodName := ⟨RX1, "size", "()I"⟩
abbrev cX1_keep : ByteArray := prog_3_method_3_code
def yX1_keep : MethodName := ⟨RX1, "keep", "(LBufferLoans$Desk;)V"⟩
abbrev cX1_giveBack : ByteArray := prog_3_method_4_code
def yX1_giveBack : MethodName := ⟨RX1, "giveBack", "(LBufferLoans$Desk;)V"⟩
abbrev cX1_slotAt : ByteArray := prog_3_method_5_code
def yX1_slotAt : MethodName := ⟨RX1, "slotAt", "(I)LBufferLoans$Desk;"⟩
def RX2 : String := "BufferLoans$Reader"
def TX2 : u_T := fun k => match k with
  | 0 => ("BufferLoans$Reader", "part", "I", false)
  | 1 => ("BufferLoans$Reader", "number", "I", false)
  | _ => ("BufferLoans$Reader", "tasks", "I", false)
def tyX2 : Nat → FieldType := fun k => match k with
  | 0 => .int
  | 1 => .int
  | _ => .int
abbrev wsX20 : List Cond := u_ws RX2 TX2 3
theorem nmX2 : ∀ a, a < 3 → ∀ b, b < 3 → a ≠ b → (TX2 a).2.1 ≠ (TX2 b).2.1 := by decide +kernel
theorem tyX2_ok : ∀ k, k < 3 → parseFieldDescriptor (TX2 k).2.2.1 = some (tyX2 k) := by decide +kernel
abbrev cX2_init : ByteArray := prog_4_method_1_code
def yX2_init : MethodName := ⟨RX2, "<init>", "()V"⟩
abbrev cX2_isDigit : ByteArray := prog_4_method_2_code
def yX2_isDigit : MethodName := ⟨RX2, "isDigit", "(I)Z"⟩
abbrev cX2_start : ByteArray := prog_4_method_3_code
def yX2_start : MethodName := ⟨RX2, "start", "()V"⟩
abbrev cX2_takes : ByteArray := prog_4_method_4_code
def yX2_takes : MethodName := ⟨RX2, "takes", "(I)Z"⟩
abbrev cX2_isAtEndOfPlan : ByteArray := prog_4_method_5_code
def yX2_isAtEndOfPlan : MethodName := ⟨RX2, "isAtEndOfPlan", "()Z"⟩
abbrev cX2_begin : ByteArray := prog_4_method_6_code
def yX2_begin : MethodName := ⟨RX2, "begin", "(I)V"⟩
abbrev cX2_takesDigit : ByteArray := prog_4_method_7_code
def yX2_takesDigit : MethodName := ⟨RX2, "takesDigit", "(I)Z"⟩
abbrev cX2_leastNumber : ByteArray := prog_4_method_8_code
def yX2_leastNumber : MethodName := ⟨RX2, "leastNumber", "()I"⟩
abbrev cX2_greatestNumber : ByteArray := prog_4_method_9_code
def yX2_greatestNumber : MethodName := ⟨RX2, "greatestNumber", "()I"⟩
abbrev cX2_takesSign : ByteArray := prog_4_method_10_code
def yX2_takesSign : MethodName := ⟨RX2, "takesSign", "(I)Z"⟩
def RX3 : String := "BufferLoans$Table"
def TX3 : u_T := fun k => match k with
  | 0 => ("BufferLoans$Table", "columns", "I", true)
  | _ => ("BufferLoans$Table", "cells", "[I", true)
def tyX3 : Nat → FieldType := fun k => match k with
  | 0 => .int
  | _ => .array .int
abbrev wsX30 : List Cond := u_ws RX3 TX3 2
theorem nmX3 : ∀ a, a < 2 → ∀ b, b < 2 → a ≠ b → (TX3 a).2.1 ≠ (TX3 b).2.1 := by decide +kernel
theorem tyX3_ok : ∀ k, k < 2 → parseFieldDescriptor (TX3 k).2.2.1 = some (tyX3 k) := by decide +kernel
abbrev cX3_init : ByteArray := prog_5_method_1_code
def yX3_init : MethodName := ⟨RX3, "<init>", "(II)V"⟩
abbrev cX3_get : ByteArray := prog_5_method_2_code
def yX3_get : MethodName := ⟨RX3, "get", "(II)I"⟩
abbrev cX3_put : ByteArray := prog_5_method_3_code
def yX3_put : MethodName := ⟨RX3, "put", "(III)V"⟩
abbrev cX3_increase : ByteArray := prog_5_method_4_code
def yX3_increase : MethodName := ⟨RX3, "increase", "(III)V"⟩
abbrev cX3_removeRow : ByteArray := prog_5_method_5_code
def yX3_removeRow : MethodName := ⟨RX3, "removeRow", "(I)V"⟩
abbrev cX3_insertRow : ByteArray := prog_5_method_6_code
def yX3_insertRow : MethodName := ⟨RX3, "insertRow", "(I)V"⟩
abbrev cX3_copyFrom : ByteArray := prog_5_method_7_code
def yX3_copyFrom : MethodName := ⟨RX3, "copyFrom", "(LBufferLoans$Table;)V"⟩
def RX4 : String := "BufferLoans$Text"
def TX4 : u_T := fun k => match k with
  | 0 => ("BufferLoans$Text", "codes", "[I", true)
  | 1 => ("BufferLoans$Text", "reader", "LBufferLoans$Reader;", true)
  | _ => ("BufferLoans$Text", "length", "I", false)
def tyX4 : Nat → FieldType := fun k => match k with
  | 0 => .array .int
  | 1 => .object "BufferLoans$Reader"
  | _ => .int
abbrev wsX40 : List Cond := u_ws RX4 TX4 3
theorem nmX4 : ∀ a, a < 3 → ∀ b, b < 3 → a ≠ b → (TX4 a).2.1 ≠ (TX4 b).2.1 := by decide +kernel
theorem tyX4_ok : ∀ k, k < 3 → parseFieldDescriptor (TX4 k).2.2.1 = some (tyX4 k) := by decide +kernel
abbrev cX4_init : ByteArray := prog_6_method_1_code
def yX4_init : MethodName := ⟨RX4, "<init>", "()V"⟩
abbrev cX4_length : ByteArray := prog_6_method_2_code
def yX4_length : MethodName := ⟨RX4, "length", "()I"⟩
abbrev cX4_codeAt : ByteArray := prog_6_method_3_code
def yX4_codeAt : MethodName := ⟨RX4, "codeAt", "(I)I"⟩
abbrev cX4_add : ByteArray := prog_6_method_4_code
def yX4_add : MethodName := ⟨RX4, "add", "(I)V"⟩
abbrev cX4_wipe : ByteArray := prog_6_method_5_code
def yX4_wipe : MethodName := ⟨RX4, "wipe", "()V"⟩
abbrev cX4_firstFault : ByteArray := prog_6_method_6_code
def yX4_firstFault : MethodName := ⟨RX4, "firstFault", "()I"⟩
abbrev cX4_isWholePlan : ByteArray := prog_6_method_7_code
def yX4_isWholePlan : MethodName := ⟨RX4, "isWholePlan", "()Z"⟩
abbrev cX4_projectsInPlan : ByteArray := prog_6_method_8_code
def yX4_projectsInPlan : MethodName := ⟨RX4, "projectsInPlan", "()I"⟩
def RX5 : String := "BufferLoans"
def TX5 : u_T := fun k => match k with
  | 0 => ("BufferLoans", "desk", "LBufferLoans$Desk;", true)
  | 1 => ("BufferLoans", "trial", "LBufferLoans$Desk;", true)
  | 2 => ("BufferLoans", "history", "LBufferLoans$History;", true)
  | _ => ("BufferLoans", "text", "LBufferLoans$Text;", true)
def tyX5 : Nat → FieldType := fun k => match k with
  | 0 => .object "BufferLoans$Desk"
  | 1 => .object "BufferLoans$Desk"
  | 2 => .object "BufferLoans$History"
  | _ => .object "BufferLoans$Text"
abbrev wsX50 : List Cond := u_ws RX5 TX5 4
theorem nmX5 : ∀ a, a < 4 → ∀ b, b < 4 → a ≠ b → (TX5 a).2.1 ≠ (TX5 b).2.1 := by decide +kernel
theorem tyX5_ok : ∀ k, k < 4 → parseFieldDescriptor (TX5 k).2.2.1 = some (tyX5 k) := by decide +kernel
abbrev cX5_init : ByteArray := prog_1_method_1_code
def yX5_init : MethodName := ⟨RX5, "<init>", "()V"⟩
abbrev cX5_open : ByteArray := prog_1_method_2_code
def yX5_open : MethodName := ⟨RX5, "open", "(II)I"⟩
abbrev cX5_plan : ByteArray := prog_1_method_3_code
def yX5_plan : MethodName := ⟨RX5, "plan", "(II)I"⟩
abbrev cX5_rank : ByteArray := prog_1_method_4_code
def yX5_rank : MethodName := ⟨RX5, "rank", "(II)I"⟩
abbrev cX5_set : ByteArray := prog_1_method_5_code
def yX5_set : MethodName := ⟨RX5, "set", "(II)I"⟩
abbrev cX5_done : ByteArray := prog_1_method_6_code
def yX5_done : MethodName := ⟨RX5, "done", "(II)I"⟩
abbrev cX5_lend : ByteArray := prog_1_method_7_code
def yX5_lend : MethodName := ⟨RX5, "lend", "(III)I"⟩
abbrev cX5_payBack : ByteArray := prog_1_method_8_code
def yX5_payBack : MethodName := ⟨RX5, "payBack", "(III)I"⟩
abbrev cX5_close : ByteArray := prog_1_method_9_code
def yX5_close : MethodName := ⟨RX5, "close", "(I)I"⟩
abbrev cX5_append : ByteArray := prog_1_method_10_code
def yX5_append : MethodName := ⟨RX5, "append", "(I)I"⟩
abbrev cX5_clearBuffer : ByteArray := prog_1_method_11_code
def yX5_clearBuffer : MethodName := ⟨RX5, "clearBuffer", "()I"⟩
abbrev cX5_firstError : ByteArray := prog_1_method_12_code
def yX5_firstError : MethodName := ⟨RX5, "firstError", "()I"⟩
abbrev cX5_openAll : ByteArray := prog_1_method_13_code
def yX5_openAll : MethodName := ⟨RX5, "openAll", "()I"⟩
abbrev cX5_undo : ByteArray := prog_1_method_14_code
def yX5_undo : MethodName := ⟨RX5, "undo", "()I"⟩
abbrev cX5_project : ByteArray := prog_1_method_15_code
def yX5_project : MethodName := ⟨RX5, "project", "(II)I"⟩
abbrev cX5_task : ByteArray := prog_1_method_16_code
def yX5_task : MethodName := ⟨RX5, "task", "(III)I"⟩
abbrev cX5_loan : ByteArray := prog_1_method_17_code
def yX5_loan : MethodName := ⟨RX5, "loan", "(II)I"⟩
abbrev cX5_owed : ByteArray := prog_1_method_18_code
def yX5_owed : MethodName := ⟨RX5, "owed", "(II)I"⟩
abbrev cX5_lender : ByteArray := prog_1_method_19_code
def yX5_lender : MethodName := ⟨RX5, "lender", "(II)I"⟩
abbrev cX5_count : ByteArray := prog_1_method_20_code
def yX5_count : MethodName := ⟨RX5, "count", "(I)I"⟩
abbrev cX5_setting : ByteArray := prog_1_method_21_code
def yX5_setting : MethodName := ⟨RX5, "setting", "(I)I"⟩
abbrev cX5_ifDone : ByteArray := prog_1_method_22_code
def yX5_ifDone : MethodName := ⟨RX5, "ifDone", "(III)I"⟩
abbrev cX5_bears : ByteArray := prog_1_method_23_code
def yX5_bears : MethodName := ⟨RX5, "bears", "(I)I"⟩
abbrev cX5_weakest : ByteArray := prog_1_method_24_code
def yX5_weakest : MethodName := ⟨RX5, "weakest", "()I"⟩
abbrev cX5_bestRule : ByteArray := prog_1_method_25_code
def yX5_bestRule : MethodName := ⟨RX5, "bestRule", "(II)I"⟩
abbrev cX5_lateShare : ByteArray := prog_1_method_26_code
def yX5_lateShare : MethodName := ⟨RX5, "lateShare", "()D"⟩
abbrev cX5_digest : ByteArray := prog_1_method_27_code
def yX5_digest : MethodName := ⟨RX5, "digest", "()J"⟩
abbrev cX5_isOutside : ByteArray := prog_1_method_28_code
def yX5_isOutside : MethodName := ⟨RX5, "isOutside", "(III)Z"⟩
abbrev cX5_needProject : ByteArray := prog_1_method_29_code
def yX5_needProject : MethodName := ⟨RX5, "needProject", "(I)V"⟩
abbrev cX5_needSetting : ByteArray := prog_1_method_30_code
def yX5_needSetting : MethodName := ⟨RX5, "needSetting", "(I)V"⟩
abbrev cX5_needDaysTaken : ByteArray := prog_1_method_31_code
def yX5_needDaysTaken : MethodName := ⟨RX5, "needDaysTaken", "(I)V"⟩
abbrev cX5_greatestValue : ByteArray := prog_1_method_32_code
def yX5_greatestValue : MethodName := ⟨RX5, "greatestValue", "(I)I"⟩
abbrev cX5_numberOf : ByteArray := prog_1_method_33_code
def yX5_numberOf : MethodName := ⟨RX5, "numberOf", "(I)I"⟩
abbrev cX5_openProjectsOfText : ByteArray := prog_1_method_34_code
def yX5_openProjectsOfText : MethodName := ⟨RX5, "openProjectsOfText", "()V"⟩
abbrev cX5_tryNextTask : ByteArray := prog_1_method_35_code
def yX5_tryNextTask : MethodName := ⟨RX5, "tryNextTask", "(II)Z"⟩
abbrev cX5_resultOfTrial : ByteArray := prog_1_method_36_code
def yX5_resultOfTrial : MethodName := ⟨RX5, "resultOfTrial", "(II)I"⟩
abbrev cX5_bestRuleFor : ByteArray := prog_1_method_37_code
def yX5_bestRuleFor : MethodName := ⟨RX5, "bestRuleFor", "(II)I"⟩
abbrev cX5_mix : ByteArray := prog_1_method_38_code
def yX5_mix : MethodName := ⟨RX5, "mix", "(JJ)J"⟩
abbrev cX5_mixWhatIs : ByteArray := prog_1_method_39_code
def yX5_mixWhatIs : MethodName := ⟨RX5, "mixWhatIs", "(JI)J"⟩
abbrev cX5_mixWhatWouldBe : ByteArray := prog_1_method_40_code
def yX5_mixWhatWouldBe : MethodName := ⟨RX5, "mixWhatWouldBe", "(JI)J"⟩
abbrev cX5_bitsOfShare : ByteArray := prog_1_method_41_code
def yX5_bitsOfShare : MethodName := ⟨RX5, "bitsOfShare", "(D)J"⟩
def RX6 : String := "BufferLoansModel"
def TX6 : u_T := fun k => match k with
  | 0 => ("BufferLoansModel", "z", "[I", true)
  | 1 => ("BufferLoansModel", "rows", "[I", true)
  | 2 => ("BufferLoansModel", "aside", "[I", true)
  | 3 => ("BufferLoansModel", "savedMany", "I", false)
  | 4 => ("BufferLoansModel", "buffer", "[I", true)
  | 5 => ("BufferLoansModel", "bufferMany", "I", false)
  | 6 => ("BufferLoansModel", "thrown", "I", false)
  | 7 => ("BufferLoansModel", "order", "[I", true)
  | 8 => ("BufferLoansModel", "orderMany", "I", false)
  | 9 => ("BufferLoansModel", "owned", "I", false)
  | 10 => ("BufferLoansModel", "called", "I", false)
  | 11 => ("BufferLoansModel", "borrowed", "I", false)
  | 12 => ("BufferLoansModel", "late", "I", false)
  | 13 => ("BufferLoansModel", "place", "I", false)
  | 14 => ("BufferLoansModel", "told", "I", false)
  | 15 => ("BufferLoansModel", "read", "[I", true)
  | _ => ("BufferLoansModel", "h", "J", false)
def tyX6 : Nat → FieldType := fun k => match k with
  | 0 => .array .int
  | 1 => .array .int
  | 2 => .array .int
  | 3 => .int
  | 4 => .array .int
  | 5 => .int
  | 6 => .int
  | 7 => .array .int
  | 8 => .int
  | 9 => .int
  | 10 => .int
  | 11 => .int
  | 12 => .int
  | 13 => .int
  | 14 => .int
  | 15 => .array .int
  | _ => .long
abbrev wsX60 : List Cond := u_ws RX6 TX6 17
theorem nmX6 : ∀ a, a < 17 → ∀ b, b < 17 → a ≠ b → (TX6 a).2.1 ≠ (TX6 b).2.1 := by decide +kernel
theorem tyX6_ok : ∀ k, k < 17 → parseFieldDescriptor (TX6 k).2.2.1 = some (tyX6 k) := by decide +kernel
abbrev cX6_init : ByteArray := prog_8_method_1_code
def yX6_init : MethodName := ⟨RX6, "<init>", "()V"⟩
abbrev cX6_thrown : ByteArray := prog_8_method_2_code
def yX6_thrown : MethodName := ⟨RX6, "thrown", "()I"⟩
abbrev cX6_fails : ByteArray := prog_8_method_3_code
def yX6_fails : MethodName := ⟨RX6, "fails", "(I)I"⟩
abbrev cX6_in : ByteArray := prog_8_method_4_code
def yX6_in : MethodName := ⟨RX6, "in", "(III)Z"⟩
abbrev cX6_least : ByteArray := prog_8_method_5_code
def yX6_least : MethodName := ⟨RX6, "least", "(II)I"⟩
abbrev cX6_save : ByteArray := prog_8_method_6_code
def yX6_save : MethodName := ⟨RX6, "save", "()V"⟩
abbrev cX6_putAside : ByteArray := prog_8_method_7_code
def yX6_putAside : MethodName := ⟨RX6, "putAside", "()V"⟩
abbrev cX6_putBack : ByteArray := prog_8_method_8_code
def yX6_putBack : MethodName := ⟨RX6, "putBack", "()V"⟩
abbrev cX6_at : ByteArray := prog_8_method_9_code
def yX6_at : MethodName := ⟨RX6, "at", "(I)I"⟩
abbrev cX6_loanAt : ByteArray := prog_8_method_10_code
def yX6_loanAt : MethodName := ⟨RX6, "loanAt", "(I)I"⟩
abbrev cX6_isProject : ByteArray := prog_8_method_11_code
def yX6_isProject : MethodName := ⟨RX6, "isProject", "(I)Z"⟩
abbrev cX6_isOpen : ByteArray := prog_8_method_12_code
def yX6_isOpen : MethodName := ⟨RX6, "isOpen", "(I)Z"⟩
abbrev cX6_hasNext : ByteArray := prog_8_method_13_code
def yX6_hasNext : MethodName := ⟨RX6, "hasNext", "(I)Z"⟩
abbrev cX6_mayDo : ByteArray := prog_8_method_14_code
def yX6_mayDo : MethodName := ⟨RX6, "mayDo", "(I)Z"⟩
abbrev cX6_placeOf : ByteArray := prog_8_method_15_code
def yX6_placeOf : MethodName := ⟨RX6, "placeOf", "(II)I"⟩
abbrev cX6_owedOf : ByteArray := prog_8_method_16_code
def yX6_owedOf : MethodName := ⟨RX6, "owedOf", "(II)I"⟩
abbrev cX6_dropLoan : ByteArray := prog_8_method_17_code
def yX6_dropLoan : MethodName := ⟨RX6, "dropLoan", "(I)V"⟩
abbrev cX6_addLoan : ByteArray := prog_8_method_18_code
def yX6_addLoan : MethodName := ⟨RX6, "addLoan", "(III)V"⟩
abbrev cX6_cutLoan : ByteArray := prog_8_method_19_code
def yX6_cutLoan : MethodName := ⟨RX6, "cutLoan", "(II)V"⟩
abbrev cX6_payAll : ByteArray := prog_8_method_20_code
def yX6_payAll : MethodName := ⟨RX6, "payAll", "(II)V"⟩
abbrev cX6_lentBy : ByteArray := prog_8_method_21_code
def yX6_lentBy : MethodName := ⟨RX6, "lentBy", "(I)I"⟩
abbrev cX6_owedBy : ByteArray := prog_8_method_22_code
def yX6_owedBy : MethodName := ⟨RX6, "owedBy", "(I)I"⟩
abbrev cX6_canLend : ByteArray := prog_8_method_23_code
def yX6_canLend : MethodName := ⟨RX6, "canLend", "(I)I"⟩
abbrev cX6_merit : ByteArray := prog_8_method_24_code
def yX6_merit : MethodName := ⟨RX6, "merit", "(I)I"⟩
abbrev cX6_layOrder : ByteArray := prog_8_method_25_code
def yX6_layOrder : MethodName := ⟨RX6, "layOrder", "(I)V"⟩
abbrev cX6_callBack : ByteArray := prog_8_method_26_code
def yX6_callBack : MethodName := ⟨RX6, "callBack", "(II)V"⟩
abbrev cX6_borrow : ByteArray := prog_8_method_27_code
def yX6_borrow : MethodName := ⟨RX6, "borrow", "(II)V"⟩
abbrev cX6_charge : ByteArray := prog_8_method_28_code
def yX6_charge : MethodName := ⟨RX6, "charge", "(II)V"⟩
abbrev cX6_doNow : ByteArray := prog_8_method_29_code
def yX6_doNow : MethodName := ⟨RX6, "doNow", "(II)V"⟩
abbrev cX6_openNow : ByteArray := prog_8_method_30_code
def yX6_openNow : MethodName := ⟨RX6, "openNow", "(II)V"⟩
abbrev cX6_isRank : ByteArray := prog_8_method_31_code
def yX6_isRank : MethodName := ⟨RX6, "isRank", "(I)Z"⟩
abbrev cX6_open : ByteArray := prog_8_method_32_code
def yX6_open : MethodName := ⟨RX6, "open", "(II)I"⟩
abbrev cX6_planNow : ByteArray := prog_8_method_33_code
def yX6_planNow : MethodName := ⟨RX6, "planNow", "(II)V"⟩
abbrev cX6_plan : ByteArray := prog_8_method_34_code
def yX6_plan : MethodName := ⟨RX6, "plan", "(II)I"⟩
abbrev cX6_rank : ByteArray := prog_8_method_35_code
def yX6_rank : MethodName := ⟨RX6, "rank", "(II)I"⟩
abbrev cX6_set : ByteArray := prog_8_method_36_code
def yX6_set : MethodName := ⟨RX6, "set", "(II)I"⟩
abbrev cX6_done : ByteArray := prog_8_method_37_code
def yX6_done : MethodName := ⟨RX6, "done", "(II)I"⟩
abbrev cX6_lend : ByteArray := prog_8_method_38_code
def yX6_lend : MethodName := ⟨RX6, "lend", "(III)I"⟩
abbrev cX6_payBack : ByteArray := prog_8_method_39_code
def yX6_payBack : MethodName := ⟨RX6, "payBack", "(III)I"⟩
abbrev cX6_writeOff : ByteArray := prog_8_method_40_code
def yX6_writeOff : MethodName := ⟨RX6, "writeOff", "(I)I"⟩
abbrev cX6_close : ByteArray := prog_8_method_41_code
def yX6_close : MethodName := ⟨RX6, "close", "(I)I"⟩
abbrev cX6_append : ByteArray := prog_8_method_42_code
def yX6_append : MethodName := ⟨RX6, "append", "(I)I"⟩
abbrev cX6_clearBuffer : ByteArray := prog_8_method_43_code
def yX6_clearBuffer : MethodName := ⟨RX6, "clearBuffer", "()I"⟩
abbrev cX6_next : ByteArray := prog_8_method_44_code
def yX6_next : MethodName := ⟨RX6, "next", "()I"⟩
abbrev cX6_takes : ByteArray := prog_8_method_45_code
def yX6_takes : MethodName := ⟨RX6, "takes", "(I)Z"⟩
abbrev cX6_number : ByteArray := prog_8_method_46_code
def yX6_number : MethodName := ⟨RX6, "number", "(II)I"⟩
abbrev cX6_tasks : ByteArray := prog_8_method_47_code
def yX6_tasks : MethodName := ⟨RX6, "tasks", "(I)Z"⟩
abbrev cX6_readProject : ByteArray := prog_8_method_48_code
def yX6_readProject : MethodName := ⟨RX6, "readProject", "()Z"⟩
abbrev cX6_isPlan : ByteArray := prog_8_method_49_code
def yX6_isPlan : MethodName := ⟨RX6, "isPlan", "()Z"⟩
abbrev cX6_firstError : ByteArray := prog_8_method_50_code
def yX6_firstError : MethodName := ⟨RX6, "firstError", "()I"⟩
abbrev cX6_openAll : ByteArray := prog_8_method_51_code
def yX6_openAll : MethodName := ⟨RX6, "openAll", "()I"⟩
abbrev cX6_undo : ByteArray := prog_8_method_52_code
def yX6_undo : MethodName := ⟨RX6, "undo", "()I"⟩
abbrev cX6_planned : ByteArray := prog_8_method_53_code
def yX6_planned : MethodName := ⟨RX6, "planned", "(I)I"⟩
abbrev cX6_spent : ByteArray := prog_8_method_54_code
def yX6_spent : MethodName := ⟨RX6, "spent", "(I)I"⟩
abbrev cX6_projectOf : ByteArray := prog_8_method_55_code
def yX6_projectOf : MethodName := ⟨RX6, "projectOf", "(II)I"⟩
abbrev cX6_project : ByteArray := prog_8_method_56_code
def yX6_project : MethodName := ⟨RX6, "project", "(II)I"⟩
abbrev cX6_taskOf : ByteArray := prog_8_method_57_code
def yX6_taskOf : MethodName := ⟨RX6, "taskOf", "(III)I"⟩
abbrev cX6_task : ByteArray := prog_8_method_58_code
def yX6_task : MethodName := ⟨RX6, "task", "(III)I"⟩
abbrev cX6_loan : ByteArray := prog_8_method_59_code
def yX6_loan : MethodName := ⟨RX6, "loan", "(II)I"⟩
abbrev cX6_owed : ByteArray := prog_8_method_60_code
def yX6_owed : MethodName := ⟨RX6, "owed", "(II)I"⟩
abbrev cX6_lenderOf : ByteArray := prog_8_method_61_code
def yX6_lenderOf : MethodName := ⟨RX6, "lenderOf", "(II)I"⟩
abbrev cX6_lender : ByteArray := prog_8_method_62_code
def yX6_lender : MethodName := ⟨RX6, "lender", "(II)I"⟩
abbrev cX6_ofProjects : ByteArray := prog_8_method_63_code
def yX6_ofProjects : MethodName := ⟨RX6, "ofProjects", "(I)I"⟩
abbrev cX6_delays : ByteArray := prog_8_method_64_code
def yX6_delays : MethodName := ⟨RX6, "delays", "()I"⟩
abbrev cX6_counted : ByteArray := prog_8_method_65_code
def yX6_counted : MethodName := ⟨RX6, "counted", "(I)I"⟩
abbrev cX6_count : ByteArray := prog_8_method_66_code
def yX6_count : MethodName := ⟨RX6, "count", "(I)I"⟩
abbrev cX6_setting : ByteArray := prog_8_method_67_code
def yX6_setting : MethodName := ⟨RX6, "setting", "(I)I"⟩
abbrev cX6_doneOf : ByteArray := prog_8_method_68_code
def yX6_doneOf : MethodName := ⟨RX6, "doneOf", "(III)I"⟩
abbrev cX6_ifDone : ByteArray := prog_8_method_69_code
def yX6_ifDone : MethodName := ⟨RX6, "ifDone", "(III)I"⟩
abbrev cX6_bornBy : ByteArray := prog_8_method_70_code
def yX6_bornBy : MethodName := ⟨RX6, "bornBy", "(I)I"⟩
abbrev cX6_bears : ByteArray := prog_8_method_71_code
def yX6_bears : MethodName := ⟨RX6, "bears", "(I)I"⟩
abbrev cX6_weakestOf : ByteArray := prog_8_method_72_code
def yX6_weakestOf : MethodName := ⟨RX6, "weakestOf", "()I"⟩
abbrev cX6_weakest : ByteArray := prog_8_method_73_code
def yX6_weakest : MethodName := ⟨RX6, "weakest", "()I"⟩
abbrev cX6_leastLeft : ByteArray := prog_8_method_74_code
def yX6_leastLeft : MethodName := ⟨RX6, "leastLeft", "()I"⟩
abbrev cX6_ruleOf : ByteArray := prog_8_method_75_code
def yX6_ruleOf : MethodName := ⟨RX6, "ruleOf", "(II)I"⟩
abbrev cX6_bestRule : ByteArray := prog_8_method_76_code
def yX6_bestRule : MethodName := ⟨RX6, "bestRule", "(II)I"⟩
abbrev cX6_shareOf : ByteArray := prog_8_method_77_code
def yX6_shareOf : MethodName := ⟨RX6, "shareOf", "()D"⟩
abbrev cX6_lateShare : ByteArray := prog_8_method_78_code
def yX6_lateShare : MethodName := ⟨RX6, "lateShare", "()D"⟩
abbrev cX6_mix : ByteArray := prog_8_method_79_code
def yX6_mix : MethodName := ⟨RX6, "mix", "(J)V"⟩
abbrev cX6_mixProject : ByteArray := prog_8_method_80_code
def yX6_mixProject : MethodName := ⟨RX6, "mixProject", "(I)V"⟩
abbrev cX6_digest : ByteArray := prog_8_method_81_code
def yX6_digest : MethodName := ⟨RX6, "digest", "()J"⟩
def RJxe99ae : String := "java/lang/Double"
abbrev cJxe99ae_isNaN_b9ae7 : ByteArray := prog_9_method_6_code
def yJxe99ae_isNaN_b9ae7 : MethodName := ⟨RJxe99ae, "isNaN", "(D)Z"⟩
abbrev cJxe99ae_doubleToLongBits_ccdee : ByteArray := prog_9_method_23_code
def yJxe99ae_doubleToLongBits_ccdee : MethodName := ⟨RJxe99ae, "doubleToLongBits", "(D)J"⟩
def RJ9 : String := "java/lang/Math"
abbrev cJ9_max_7cf53 : ByteArray := prog_14_method_65_code
def yJ9_max_7cf53 : MethodName := ⟨RJ9, "max", "(II)I"⟩
abbrev cJ9_min_7cf53 : ByteArray := prog_14_method_69_code
def yJ9_min_7cf53 : MethodName := ⟨RJ9, "min", "(II)I"⟩
def RJ0 : String := "java/lang/String"
def RJ10 : String := "java/lang/System"
def RL : String := "BufferLoansLaw"
abbrev cL_open : ByteArray := method_3_code
def yL_open : MethodName := ⟨RL, "open", "(LBufferLoans;II[J)I"⟩
abbrev cL_plan : ByteArray := method_4_code
def yL_plan : MethodName := ⟨RL, "plan", "(LBufferLoans;II[J)I"⟩
abbrev cL_rank : ByteArray := method_5_code
def yL_rank : MethodName := ⟨RL, "rank", "(LBufferLoans;II[J)I"⟩
abbrev cL_set : ByteArray := method_6_code
def yL_set : MethodName := ⟨RL, "set", "(LBufferLoans;II[J)I"⟩
abbrev cL_done : ByteArray := method_7_code
def yL_done : MethodName := ⟨RL, "done", "(LBufferLoans;II[J)I"⟩
abbrev cL_lend : ByteArray := method_8_code
def yL_lend : MethodName := ⟨RL, "lend", "(LBufferLoans;III[J)I"⟩
abbrev cL_payBack : ByteArray := method_9_code
def yL_payBack : MethodName := ⟨RL, "payBack", "(LBufferLoans;III[J)I"⟩
abbrev cL_close : ByteArray := method_10_code
def yL_close : MethodName := ⟨RL, "close", "(LBufferLoans;I[J)I"⟩
abbrev cL_append : ByteArray := method_11_code
def yL_append : MethodName := ⟨RL, "append", "(LBufferLoans;I[J)I"⟩
abbrev cL_openAll : ByteArray := method_12_code
def yL_openAll : MethodName := ⟨RL, "openAll", "(LBufferLoans;[J)I"⟩
abbrev cL_undo : ByteArray := method_13_code
def yL_undo : MethodName := ⟨RL, "undo", "(LBufferLoans;[J)I"⟩
abbrev cL_project : ByteArray := method_14_code
def yL_project : MethodName := ⟨RL, "project", "(LBufferLoans;II[J)I"⟩
abbrev cL_task : ByteArray := method_15_code
def yL_task : MethodName := ⟨RL, "task", "(LBufferLoans;III[J)I"⟩
abbrev cL_loan : ByteArray := method_16_code
def yL_loan : MethodName := ⟨RL, "loan", "(LBufferLoans;II[J)I"⟩
abbrev cL_owed : ByteArray := method_17_code
def yL_owed : MethodName := ⟨RL, "owed", "(LBufferLoans;II[J)I"⟩
abbrev cL_lender : ByteArray := method_18_code
def yL_lender : MethodName := ⟨RL, "lender", "(LBufferLoans;II[J)I"⟩
abbrev cL_count : ByteArray := method_19_code
def yL_count : MethodName := ⟨RL, "count", "(LBufferLoans;I[J)I"⟩
abbrev cL_setting : ByteArray := method_20_code
def yL_setting : MethodName := ⟨RL, "setting", "(LBufferLoans;I[J)I"⟩
abbrev cL_ifDone : ByteArray := method_21_code
def yL_ifDone : MethodName := ⟨RL, "ifDone", "(LBufferLoans;III[J)I"⟩
abbrev cL_bears : ByteArray := method_22_code
def yL_bears : MethodName := ⟨RL, "bears", "(LBufferLoans;I[J)I"⟩
abbrev cL_bestRule : ByteArray := method_23_code
def yL_bestRule : MethodName := ⟨RL, "bestRule", "(LBufferLoans;II[J)I"⟩
abbrev cL_law : ByteArray := code
def yL_law : MethodName := ⟨RL, "law", "([I)Z"⟩
abbrev vwCl : List vw_C := [(RX0, TX0, 7), (RX1, TX1, 3), (RX2, TX2, 3), (RX3, TX3, 2), (RX4, TX4, 3), (RX5, TX5, 4), (RX6, TX6, 17)]
end
section
theorem dX0_init_0 : decode cX0_init 0 = .ok (.aload_n 0, 1) := by decide +kernel
theorem dX0_init_1 : decode cX0_init 1 = .ok (.invokespecial 3, 3) := by decide +kernel
theorem dX0_init_4 : decode cX0_init 4 = .ok (.aload_n 0, 1) := by decide +kernel
theorem dX0_init_5 : decode cX0_init 5 = .ok (.new 9, 3) := by decide +kernel
theorem dX0_init_8 : decode cX0_init 8 = .ok (.dup, 1) := by decide +kernel
theorem dX0_init_9 : decode cX0_init 9 = .ok (.bipush 6, 2) := by decide +kernel
theorem dX0_init_11 : decode cX0_init 11 = .ok (.bipush 14, 2) := by decide +kernel
theorem dX0_init_13 : decode cX0_init 13 = .ok (.invokespecial 11, 3) := by decide +kernel
theorem dX0_init_16 : decode cX0_init 16 = .ok (.putfield 14, 3) := by decide +kernel
theorem dX0_init_19 : decode cX0_init 19 = .ok (.aload_n 0, 1) := by decide +kernel
theorem dX0_init_20 : decode cX0_init 20 = .ok (.new 9, 3) := by decide +kernel
theorem dX0_init_23 : decode cX0_init 23 = .ok (.dup, 1) := by decide +kernel
theorem dX0_init_24 : decode cX0_init 24 = .ok (.bipush 48, 2) := by decide +kernel
theorem dX0_init_26 : decode cX0_init 26 = .ok (.bipush 6, 2) := by decide +kernel
theorem dX0_init_28 : decode cX0_init 28 = .ok (.invokespecial 11, 3) := by decide +kernel
theorem dX0_init_31 : decode cX0_init 31 = .ok (.putfield 20, 3) := by decide +kernel
theorem dX0_init_34 : decode cX0_init 34 = .ok (.aload_n 0, 1) := by decide +kernel
theorem dX0_init_35 : decode cX0_init 35 = .ok (.new 9, 3) := by decide +kernel
theorem dX0_init_38 : decode cX0_init 38 = .ok (.dup, 1) := by decide +kernel
theorem dX0_init_39 : decode cX0_init 39 = .ok (.bipush 30, 2) := by decide +kernel
theorem dX0_init_41 : decode cX0_init 41 = .ok (.iconst 3, 1) := by decide +kernel
theorem dX0_init_42 : decode cX0_init 42 = .ok (.invokespecial 11, 3) := by decide +kernel
theorem dX0_init_45 : decode cX0_init 45 = .ok (.putfield 23, 3) := by decide +kernel
theorem dX0_init_48 : decode cX0_init 48 = .ok (.aload_n 0, 1) := by decide +kernel
theorem dX0_init_49 : decode cX0_init 49 = .ok (.new 9, 3) := by decide +kernel
theorem dX0_init_52 : decode cX0_init 52 = .ok (.dup, 1) := by decide +kernel
theorem dX0_init_53 : decode cX0_init 53 = .ok (.iconst 1, 1) := by decide +kernel
theorem dX0_init_54 : decode cX0_init 54 = .ok (.getstatic 26, 3) := by decide +kernel
theorem dX0_init_57 : decode cX0_init 57 = .ok (.arraylength, 1) := by decide +kernel
theorem dX0_init_58 : decode cX0_init 58 = .ok (.invokespecial 11, 3) := by decide +kernel
theorem dX0_init_61 : decode cX0_init 61 = .ok (.putfield 30, 3) := by decide +kernel
theorem dX0_init_64 : decode cX0_init 64 = .ok (.aload_n 0, 1) := by decide +kernel
theorem dX0_init_65 : decode cX0_init 65 = .ok (.new 9, 3) := by decide +kernel
theorem dX0_init_68 : decode cX0_init 68 = .ok (.dup, 1) := by decide +kernel
theorem dX0_init_69 : decode cX0_init 69 = .ok (.bipush 6, 2) := by decide +kernel
theorem dX0_init_71 : decode cX0_init 71 = .ok (.iconst 3, 1) := by decide +kernel
theorem dX0_init_72 : decode cX0_init 72 = .ok (.invokespecial 11, 3) := by decide +kernel
theorem dX0_init_75 : decode cX0_init 75 = .ok (.putfield 33, 3) := by decide +kernel
theorem dX0_init_78 : decode cX0_init 78 = .ok (.aload_n 0, 1) := by decide +kernel
theorem dX0_init_79 : decode cX0_init 79 = .ok (.getfield 30, 3) := by decide +kernel
theorem dX0_init_82 : decode cX0_init 82 = .ok (.iconst 0, 1) := by decide +kernel
theorem dX0_init_83 : decode cX0_init 83 = .ok (.iconst 1, 1) := by decide +kernel
theorem dX0_init_84 : decode cX0_init 84 = .ok (.bipush 30, 2) := by decide +kernel
theorem dX0_init_86 : decode cX0_init 86 = .ok (.invokevirtual 36, 3) := by decide +kernel
theorem dX0_init_89 : decode cX0_init 89 = .ok (.aload_n 0, 1) := by decide +kernel
theorem dX0_init_90 : decode cX0_init 90 = .ok (.getfield 30, 3) := by decide +kernel
theorem dX0_init_93 : decode cX0_init 93 = .ok (.iconst 0, 1) := by decide +kernel
theorem dX0_init_94 : decode cX0_init 94 = .ok (.iconst 2, 1) := by decide +kernel
theorem dX0_init_95 : decode cX0_init 95 = .ok (.bipush 50, 2) := by decide +kernel
theorem dX0_init_97 : decode cX0_init 97 = .ok (.invokevirtual 36, 3) := by decide +kernel
theorem dX0_init_100 : decode cX0_init 100 = .ok (.return_, 1) := by decide +kernel
theorem dX0_copyFrom_0 : decode cX0_copyFrom 0 = .ok (.aload_n 0, 1) := by decide +kernel
theorem dX0_copyFrom_1 : decode cX0_copyFrom 1 = .ok (.getfield 14, 3) := by decide +kernel
theorem dX0_copyFrom_4 : decode cX0_copyFrom 4 = .ok (.aload_n 1, 1) := by decide +kernel
theorem dX0_copyFrom_5 : decode cX0_copyFrom 5 = .ok (.getfield 14, 3) := by decide +kernel
theorem dX0_copyFrom_8 : decode cX0_copyFrom 8 = .ok (.invokevirtual 40, 3) := by decide +kernel
theorem dX0_copyFrom_11 : decode cX0_copyFrom 11 = .ok (.aload_n 0, 1) := by decide +kernel
theorem dX0_copyFrom_12 : decode cX0_copyFrom 12 = .ok (.getfield 20, 3) := by decide +kernel
theorem dX0_copyFrom_15 : decode cX0_copyFrom 15 = .ok (.aload_n 1, 1) := by decide +kernel
theorem dX0_copyFrom_16 : decode cX0_copyFrom 16 = .ok (.getfield 20, 3) := by decide +kernel
theorem dX0_copyFrom_19 : decode cX0_copyFrom 19 = .ok (.invokevirtual 40, 3) := by decide +kernel
theorem dX0_copyFrom_22 : decode cX0_copyFrom 22 = .ok (.aload_n 0, 1) := by decide +kernel
theorem dX0_copyFrom_23 : decode cX0_copyFrom 23 = .ok (.getfield 23, 3) := by decide +kernel
theorem dX0_copyFrom_26 : decode cX0_copyFrom 26 = .ok (.aload_n 1, 1) := by decide +kernel
theorem dX0_copyFrom_27 : decode cX0_copyFrom 27 = .ok (.getfield 23, 3) := by decide +kernel
theorem dX0_copyFrom_30 : decode cX0_copyFrom 30 = .ok (.invokevirtual 40, 3) := by decide +kernel
theorem dX0_copyFrom_33 : decode cX0_copyFrom 33 = .ok (.aload_n 0, 1) := by decide +kernel
theorem dX0_copyFrom_34 : decode cX0_copyFrom 34 = .ok (.getfield 30, 3) := by decide +kernel
theorem dX0_copyFrom_37 : decode cX0_copyFrom 37 = .ok (.aload_n 1, 1) := by decide +kernel
theorem dX0_copyFrom_38 : decode cX0_copyFrom 38 = .ok (.getfield 30, 3) := by decide +kernel
theorem dX0_copyFrom_41 : decode cX0_copyFrom 41 = .ok (.invokevirtual 40, 3) := by decide +kernel
theorem dX0_copyFrom_44 : decode cX0_copyFrom 44 = .ok (.aload_n 0, 1) := by decide +kernel
theorem dX0_copyFrom_45 : decode cX0_copyFrom 45 = .ok (.aload_n 1, 1) := by decide +kernel
theorem dX0_copyFrom_46 : decode cX0_copyFrom 46 = .ok (.getfield 44, 3) := by decide +kernel
theorem dX0_copyFrom_49 : decode cX0_copyFrom 49 = .ok (.putfield 44, 3) := by decide +kernel
theorem dX0_copyFrom_52 : decode cX0_copyFrom 52 = .ok (.aload_n 0, 1) := by decide +kernel
theorem dX0_copyFrom_53 : decode cX0_copyFrom 53 = .ok (.aload_n 1, 1) := by decide +kernel
theorem dX0_copyFrom_54 : decode cX0_copyFrom 54 = .ok (.getfield 48, 3) := by decide +kernel
theorem dX0_copyFrom_57 : decode cX0_copyFrom 57 = .ok (.putfield 48, 3) := by decide +kernel
theorem dX0_copyFrom_60 : decode cX0_copyFrom 60 = .ok (.return_, 1) := by decide +kernel
theorem dX0_projects_0 : decode cX0_projects 0 = .ok (.aload_n 0, 1) := by decide +kernel
theorem dX0_projects_1 : decode cX0_projects 1 = .ok (.getfield 44, 3) := by decide +kernel
theorem dX0_projects_4 : decode cX0_projects 4 = .ok (.ireturn, 1) := by decide +kernel
theorem dX0_loans_0 : decode cX0_loans 0 = .ok (.aload_n 0, 1) := by decide +kernel
theorem dX0_loans_1 : decode cX0_loans 1 = .ok (.getfield 48, 3) := by decide +kernel
theorem dX0_loans_4 : decode cX0_loans 4 = .ok (.ireturn, 1) := by decide +kernel
theorem dX0_isOpen_0 : decode cX0_isOpen 0 = .ok (.aload_n 0, 1) := by decide +kernel
theorem dX0_isOpen_1 : decode cX0_isOpen 1 = .ok (.getfield 14, 3) := by decide +kernel
theorem dX0_isOpen_4 : decode cX0_isOpen 4 = .ok (.iload_n 1, 1) := by decide +kernel
theorem dX0_isOpen_5 : decode cX0_isOpen 5 = .ok (.bipush 9, 2) := by decide +kernel
theorem dX0_isOpen_7 : decode cX0_isOpen 7 = .ok (.invokevirtual 51, 3) := by decide +kernel
theorem dX0_isOpen_10 : decode cX0_isOpen 10 = .ok (.iconst 1, 1) := by decide +kernel
theorem dX0_isOpen_11 : decode cX0_isOpen 11 = .ok (.if_icmp .ne 7, 3) := by decide +kernel
theorem dX0_isOpen_14 : decode cX0_isOpen 14 = .ok (.iconst 1, 1) := by decide +kernel
theorem dX0_isOpen_15 : decode cX0_isOpen 15 = .ok (.goto 4, 3) := by decide +kernel
theorem dX0_isOpen_18 : decode cX0_isOpen 18 = .ok (.iconst 0, 1) := by decide +kernel
theorem dX0_isOpen_19 : decode cX0_isOpen 19 = .ok (.ireturn, 1) := by decide +kernel
theorem dX0_hasNextTask_0 : decode cX0_hasNextTask 0 = .ok (.aload_n 0, 1) := by decide +kernel
theorem dX0_hasNextTask_1 : decode cX0_hasNextTask 1 = .ok (.iload_n 1, 1) := by decide +kernel
theorem dX0_hasNextTask_2 : decode cX0_hasNextTask 2 = .ok (.invokevirtual 55, 3) := by decide +kernel
theorem dX0_hasNextTask_5 : decode cX0_hasNextTask 5 = .ok (.ifCond .eq 30, 3) := by decide +kernel
theorem dX0_hasNextTask_8 : decode cX0_hasNextTask 8 = .ok (.aload_n 0, 1) := by decide +kernel
theorem dX0_hasNextTask_9 : decode cX0_hasNextTask 9 = .ok (.getfield 14, 3) := by decide +kernel
theorem dX0_hasNextTask_12 : decode cX0_hasNextTask 12 = .ok (.iload_n 1, 1) := by decide +kernel
theorem dX0_hasNextTask_13 : decode cX0_hasNextTask 13 = .ok (.bipush 8, 2) := by decide +kernel
theorem dX0_hasNextTask_15 : decode cX0_hasNextTask 15 = .ok (.invokevirtual 51, 3) := by decide +kernel
theorem dX0_hasNextTask_18 : decode cX0_hasNextTask 18 = .ok (.aload_n 0, 1) := by decide +kernel
theorem dX0_hasNextTask_19 : decode cX0_hasNextTask 19 = .ok (.getfield 14, 3) := by decide +kernel
theorem dX0_hasNextTask_22 : decode cX0_hasNextTask 22 = .ok (.iload_n 1, 1) := by decide +kernel
theorem dX0_hasNextTask_23 : decode cX0_hasNextTask 23 = .ok (.bipush 7, 2) := by decide +kernel
theorem dX0_hasNextTask_25 : decode cX0_hasNextTask 25 = .ok (.invokevirtual 51, 3) := by decide +kernel
theorem dX0_hasNextTask_28 : decode cX0_hasNextTask 28 = .ok (.if_icmp .ge 7, 3) := by decide +kernel
theorem dX0_hasNextTask_31 : decode cX0_hasNextTask 31 = .ok (.iconst 1, 1) := by decide +kernel
theorem dX0_hasNextTask_32 : decode cX0_hasNextTask 32 = .ok (.goto 4, 3) := by decide +kernel
theorem dX0_hasNextTask_35 : decode cX0_hasNextTask 35 = .ok (.iconst 0, 1) := by decide +kernel
theorem dX0_hasNextTask_36 : decode cX0_hasNextTask 36 = .ok (.ireturn, 1) := by decide +kernel
theorem dX0_projectPart_0 : decode cX0_projectPart 0 = .ok (.iload_n 2, 1) := by decide +kernel
theorem dX0_projectPart_1 : decode cX0_projectPart 1 = .ok (.bipush 14, 2) := by decide +kernel
theorem dX0_projectPart_3 : decode cX0_projectPart 3 = .ok (.if_icmp .eq 13, 3) := by decide +kernel
theorem dX0_projectPart_6 : decode cX0_projectPart 6 = .ok (.aload_n 0, 1) := by decide +kernel
theorem dX0_projectPart_7 : decode cX0_projectPart 7 = .ok (.getfield 14, 3) := by decide +kernel
theorem dX0_projectPart_10 : decode cX0_projectPart 10 = .ok (.iload_n 1, 1) := by decide +kernel
theorem dX0_projectPart_11 : decode cX0_projectPart 11 = .ok (.iload_n 2, 1) := by decide +kernel
theorem dX0_projectPart_12 : decode cX0_projectPart 12 = .ok (.invokevirtual 51, 3) := by decide +kernel
theorem dX0_projectPart_15 : decode cX0_projectPart 15 = .ok (.ireturn, 1) := by decide +kernel
theorem dX0_projectPart_16 : decode cX0_projectPart 16 = .ok (.aload_n 0, 1) := by decide +kernel
theorem dX0_projectPart_17 : decode cX0_projectPart 17 = .ok (.iload_n 1, 1) := by decide +kernel
theorem dX0_projectPart_18 : decode cX0_projectPart 18 = .ok (.invokevirtual 55, 3) := by decide +kernel
theorem dX0_projectPart_21 : decode cX0_projectPart 21 = .ok (.ifCond .eq 12, 3) := by decide +kernel
theorem dX0_projectPart_24 : decode cX0_projectPart 24 = .ok (.aload_n 0, 1) := by decide +kernel
theorem dX0_projectPart_25 : decode cX0_projectPart 25 = .ok (.iload_n 1, 1) := by decide +kernel
theorem dX0_projectPart_26 : decode cX0_projectPart 26 = .ok (.iconst 0, 1) := by decide +kernel
theorem dX0_projectPart_27 : decode cX0_projectPart 27 = .ok (.invokevirtual 59, 3) := by decide +kernel
theorem dX0_projectPart_30 : decode cX0_projectPart 30 = .ok (.goto 4, 3) := by decide +kernel
theorem dX0_projectPart_33 : decode cX0_projectPart 33 = .ok (.iconst 0, 1) := by decide +kernel
theorem dX0_projectPart_34 : decode cX0_projectPart 34 = .ok (.ireturn, 1) := by decide +kernel
theorem dX0_taskPart_0 : decode cX0_taskPart 0 = .ok (.aload_n 0, 1) := by decide +kernel
theorem dX0_taskPart_1 : decode cX0_taskPart 1 = .ok (.getfield 20, 3) := by decide +kernel
theorem dX0_taskPart_4 : decode cX0_taskPart 4 = .ok (.iload_n 1, 1) := by decide +kernel
theorem dX0_taskPart_5 : decode cX0_taskPart 5 = .ok (.iload_n 2, 1) := by decide +kernel
theorem dX0_taskPart_6 : decode cX0_taskPart 6 = .ok (.invokestatic 62, 3) := by decide +kernel
theorem dX0_taskPart_9 : decode cX0_taskPart 9 = .ok (.iload_n 3, 1) := by decide +kernel
theorem dX0_taskPart_10 : decode cX0_taskPart 10 = .ok (.invokevirtual 51, 3) := by decide +kernel
theorem dX0_taskPart_13 : decode cX0_taskPart 13 = .ok (.ireturn, 1) := by decide +kernel
theorem dX0_loanPart_0 : decode cX0_loanPart 0 = .ok (.aload_n 0, 1) := by decide +kernel
theorem dX0_loanPart_1 : decode cX0_loanPart 1 = .ok (.getfield 23, 3) := by decide +kernel
theorem dX0_loanPart_4 : decode cX0_loanPart 4 = .ok (.iload_n 1, 1) := by decide +kernel
theorem dX0_loanPart_5 : decode cX0_loanPart 5 = .ok (.iload_n 2, 1) := by decide +kernel
theorem dX0_loanPart_6 : decode cX0_loanPart 6 = .ok (.invokevirtual 51, 3) := by decide +kernel
theorem dX0_loanPart_9 : decode cX0_loanPart 9 = .ok (.ireturn, 1) := by decide +kernel
theorem dX0_valueOf_0 : decode cX0_valueOf 0 = .ok (.aload_n 0, 1) := by decide +kernel
theorem dX0_valueOf_1 : decode cX0_valueOf 1 = .ok (.getfield 30, 3) := by decide +kernel
theorem dX0_valueOf_4 : decode cX0_valueOf 4 = .ok (.iconst 0, 1) := by decide +kernel
theorem dX0_valueOf_5 : decode cX0_valueOf 5 = .ok (.iload_n 1, 1) := by decide +kernel
theorem dX0_valueOf_6 : decode cX0_valueOf 6 = .ok (.invokevirtual 51, 3) := by decide +kernel
theorem dX0_valueOf_9 : decode cX0_valueOf 9 = .ok (.ireturn, 1) := by decide +kernel
theorem dX0_changeSetting_0 : decode cX0_changeSetting 0 = .ok (.aload_n 0, 1) := by decide +kernel
theorem dX0_changeSetting_1 : decode cX0_changeSetting 1 = .ok (.getfield 30, 3) := by decide +kernel
theorem dX0_changeSetting_4 : decode cX0_changeSetting 4 = .ok (.iconst 0, 1) := by decide +kernel
theorem dX0_changeSetting_5 : decode cX0_changeSetting 5 = .ok (.iload_n 1, 1) := by decide +kernel
theorem dX0_changeSetting_6 : decode cX0_changeSetting 6 = .ok (.invokevirtual 51, 3) := by decide +kernel
theorem dX0_changeSetting_9 : decode cX0_changeSetting 9 = .ok (.istore_n 3, 1) := by decide +kernel
theorem dX0_changeSetting_10 : decode cX0_changeSetting 10 = .ok (.aload_n 0, 1) := by decide +kernel
theorem dX0_changeSetting_11 : decode cX0_changeSetting 11 = .ok (.getfield 30, 3) := by decide +kernel
theorem dX0_changeSetting_14 : decode cX0_changeSetting 14 = .ok (.iconst 0, 1) := by decide +kernel
theorem dX0_changeSetting_15 : decode cX0_changeSetting 15 = .ok (.iload_n 1, 1) := by decide +kernel
theorem dX0_changeSetting_16 : decode cX0_changeSetting 16 = .ok (.iload_n 2, 1) := by decide +kernel
theorem dX0_changeSetting_17 : decode cX0_changeSetting 17 = .ok (.invokevirtual 36, 3) := by decide +kernel
theorem dX0_changeSetting_20 : decode cX0_changeSetting 20 = .ok (.iload_n 3, 1) := by decide +kernel
theorem dX0_changeSetting_21 : decode cX0_changeSetting 21 = .ok (.ireturn, 1) := by decide +kernel
theorem dX0_changeRank_0 : decode cX0_changeRank 0 = .ok (.aload_n 0, 1) := by decide +kernel
theorem dX0_changeRank_1 : decode cX0_changeRank 1 = .ok (.getfield 14, 3) := by decide +kernel
theorem dX0_changeRank_4 : decode cX0_changeRank 4 = .ok (.iload_n 1, 1) := by decide +kernel
theorem dX0_changeRank_5 : decode cX0_changeRank 5 = .ok (.iconst 0, 1) := by decide +kernel
theorem dX0_changeRank_6 : decode cX0_changeRank 6 = .ok (.invokevirtual 51, 3) := by decide +kernel
theorem dX0_changeRank_9 : decode cX0_changeRank 9 = .ok (.istore_n 3, 1) := by decide +kernel
theorem dX0_changeRank_10 : decode cX0_changeRank 10 = .ok (.aload_n 0, 1) := by decide +kernel
theorem dX0_changeRank_11 : decode cX0_changeRank 11 = .ok (.getfield 14, 3) := by decide +kernel
theorem dX0_changeRank_14 : decode cX0_changeRank 14 = .ok (.iload_n 1, 1) := by decide +kernel
theorem dX0_changeRank_15 : decode cX0_changeRank 15 = .ok (.iconst 0, 1) := by decide +kernel
theorem dX0_changeRank_16 : decode cX0_changeRank 16 = .ok (.iload_n 2, 1) := by decide +kernel
theorem dX0_changeRank_17 : decode cX0_changeRank 17 = .ok (.invokevirtual 36, 3) := by decide +kernel
theorem dX0_changeRank_20 : decode cX0_changeRank 20 = .ok (.iload_n 3, 1) := by decide +kernel
theorem dX0_changeRank_21 : decode cX0_changeRank 21 = .ok (.ireturn, 1) := by decide +kernel
theorem dX0_addProject_0 : decode cX0_addProject 0 = .ok (.aload_n 0, 1) := by decide +kernel
theorem dX0_addProject_1 : decode cX0_addProject 1 = .ok (.getfield 44, 3) := by decide +kernel
theorem dX0_addProject_4 : decode cX0_addProject 4 = .ok (.istore_n 3, 1) := by decide +kernel
theorem dX0_addProject_5 : decode cX0_addProject 5 = .ok (.aload_n 0, 1) := by decide +kernel
theorem dX0_addProject_6 : decode cX0_addProject 6 = .ok (.dup, 1) := by decide +kernel
theorem dX0_addProject_7 : decode cX0_addProject 7 = .ok (.getfield 44, 3) := by decide +kernel
theorem dX0_addProject_10 : decode cX0_addProject 10 = .ok (.iconst 1, 1) := by decide +kernel
theorem dX0_addProject_11 : decode cX0_addProject 11 = .ok (.iadd, 1) := by decide +kernel
theorem dX0_addProject_12 : decode cX0_addProject 12 = .ok (.putfield 44, 3) := by decide +kernel
theorem dX0_addProject_15 : decode cX0_addProject 15 = .ok (.aload_n 0, 1) := by decide +kernel
theorem dX0_addProject_16 : decode cX0_addProject 16 = .ok (.getfield 14, 3) := by decide +kernel
theorem dX0_addProject_19 : decode cX0_addProject 19 = .ok (.iload_n 3, 1) := by decide +kernel
theorem dX0_addProject_20 : decode cX0_addProject 20 = .ok (.iconst 0, 1) := by decide +kernel
theorem dX0_addProject_21 : decode cX0_addProject 21 = .ok (.iload_n 1, 1) := by decide +kernel
theorem dX0_addProject_22 : decode cX0_addProject 22 = .ok (.invokevirtual 36, 3) := by decide +kernel
theorem dX0_addProject_25 : decode cX0_addProject 25 = .ok (.aload_n 0, 1) := by decide +kernel
theorem dX0_addProject_26 : decode cX0_addProject 26 = .ok (.getfield 14, 3) := by decide +kernel
theorem dX0_addProject_29 : decode cX0_addProject 29 = .ok (.iload_n 3, 1) := by decide +kernel
theorem dX0_addProject_30 : decode cX0_addProject 30 = .ok (.iconst 1, 1) := by decide +kernel
theorem dX0_addProject_31 : decode cX0_addProject 31 = .ok (.iload_n 2, 1) := by decide +kernel
theorem dX0_addProject_32 : decode cX0_addProject 32 = .ok (.invokevirtual 36, 3) := by decide +kernel
theorem dX0_addProject_35 : decode cX0_addProject 35 = .ok (.aload_n 0, 1) := by decide +kernel
theorem dX0_addProject_36 : decode cX0_addProject 36 = .ok (.getfield 14, 3) := by decide +kernel
theorem dX0_addProject_39 : decode cX0_addProject 39 = .ok (.iload_n 3, 1) := by decide +kernel
theorem dX0_addProject_40 : decode cX0_addProject 40 = .ok (.iconst 2, 1) := by decide +kernel
theorem dX0_addProject_41 : decode cX0_addProject 41 = .ok (.iload_n 2, 1) := by decide +kernel
theorem dX0_addProject_42 : decode cX0_addProject 42 = .ok (.invokevirtual 36, 3) := by decide +kernel
theorem dX0_addProject_45 : decode cX0_addProject 45 = .ok (.aload_n 0, 1) := by decide +kernel
theorem dX0_addProject_46 : decode cX0_addProject 46 = .ok (.getfield 14, 3) := by decide +kernel
theorem dX0_addProject_49 : decode cX0_addProject 49 = .ok (.iload_n 3, 1) := by decide +kernel
theorem dX0_addProject_50 : decode cX0_addProject 50 = .ok (.bipush 9, 2) := by decide +kernel
theorem dX0_addProject_52 : decode cX0_addProject 52 = .ok (.iconst 1, 1) := by decide +kernel
theorem dX0_addProject_53 : decode cX0_addProject 53 = .ok (.invokevirtual 36, 3) := by decide +kernel
theorem dX0_addProject_56 : decode cX0_addProject 56 = .ok (.iload_n 3, 1) := by decide +kernel
theorem dX0_addProject_57 : decode cX0_addProject 57 = .ok (.ireturn, 1) := by decide +kernel
theorem dX0_addTask_0 : decode cX0_addTask 0 = .ok (.aload_n 0, 1) := by decide +kernel
theorem dX0_addTask_1 : decode cX0_addTask 1 = .ok (.getfield 14, 3) := by decide +kernel
theorem dX0_addTask_4 : decode cX0_addTask 4 = .ok (.iload_n 1, 1) := by decide +kernel
theorem dX0_addTask_5 : decode cX0_addTask 5 = .ok (.bipush 7, 2) := by decide +kernel
theorem dX0_addTask_7 : decode cX0_addTask 7 = .ok (.invokevirtual 51, 3) := by decide +kernel
theorem dX0_addTask_10 : decode cX0_addTask 10 = .ok (.istore_n 3, 1) := by decide +kernel
theorem dX0_addTask_11 : decode cX0_addTask 11 = .ok (.iload_n 1, 1) := by decide +kernel
theorem dX0_addTask_12 : decode cX0_addTask 12 = .ok (.iload_n 3, 1) := by decide +kernel
theorem dX0_addTask_13 : decode cX0_addTask 13 = .ok (.invokestatic 62, 3) := by decide +kernel
theorem dX0_addTask_16 : decode cX0_addTask 16 = .ok (.istore 4, 2) := by decide +kernel
theorem dX0_addTask_18 : decode cX0_addTask 18 = .ok (.aload_n 0, 1) := by decide +kernel
theorem dX0_addTask_19 : decode cX0_addTask 19 = .ok (.getfield 20, 3) := by decide +kernel
theorem dX0_addTask_22 : decode cX0_addTask 22 = .ok (.iload 4, 2) := by decide +kernel
theorem dX0_addTask_24 : decode cX0_addTask 24 = .ok (.iconst 0, 1) := by decide +kernel
theorem dX0_addTask_25 : decode cX0_addTask 25 = .ok (.iload_n 2, 1) := by decide +kernel
theorem dX0_addTask_26 : decode cX0_addTask 26 = .ok (.invokevirtual 36, 3) := by decide +kernel
theorem dX0_addTask_29 : decode cX0_addTask 29 = .ok (.aload_n 0, 1) := by decide +kernel
theorem dX0_addTask_30 : decode cX0_addTask 30 = .ok (.getfield 20, 3) := by decide +kernel
theorem dX0_addTask_33 : decode cX0_addTask 33 = .ok (.iload 4, 2) := by decide +kernel
theorem dX0_addTask_35 : decode cX0_addTask 35 = .ok (.iconst 1, 1) := by decide +kernel
theorem dX0_addTask_36 : decode cX0_addTask 36 = .ok (.iconst (-1), 1) := by decide +kernel
theorem dX0_addTask_37 : decode cX0_addTask 37 = .ok (.invokevirtual 36, 3) := by decide +kernel
theorem dX0_addTask_40 : decode cX0_addTask 40 = .ok (.aload_n 0, 1) := by decide +kernel
theorem dX0_addTask_41 : decode cX0_addTask 41 = .ok (.getfield 14, 3) := by decide +kernel
theorem dX0_addTask_44 : decode cX0_addTask 44 = .ok (.iload_n 1, 1) := by decide +kernel
theorem dX0_addTask_45 : decode cX0_addTask 45 = .ok (.bipush 7, 2) := by decide +kernel
theorem dX0_addTask_47 : decode cX0_addTask 47 = .ok (.iconst 1, 1) := by decide +kernel
theorem dX0_addTask_48 : decode cX0_addTask 48 = .ok (.invokevirtual 65, 3) := by decide +kernel
theorem dX0_addTask_51 : decode cX0_addTask 51 = .ok (.aload_n 0, 1) := by decide +kernel
theorem dX0_addTask_52 : decode cX0_addTask 52 = .ok (.getfield 14, 3) := by decide +kernel
theorem dX0_addTask_55 : decode cX0_addTask 55 = .ok (.iload_n 1, 1) := by decide +kernel
theorem dX0_addTask_56 : decode cX0_addTask 56 = .ok (.bipush 12, 2) := by decide +kernel
theorem dX0_addTask_58 : decode cX0_addTask 58 = .ok (.iload_n 2, 1) := by decide +kernel
theorem dX0_addTask_59 : decode cX0_addTask 59 = .ok (.invokevirtual 65, 3) := by decide +kernel
theorem dX0_addTask_62 : decode cX0_addTask 62 = .ok (.iload_n 3, 1) := by decide +kernel
theorem dX0_addTask_63 : decode cX0_addTask 63 = .ok (.ireturn, 1) := by decide +kernel
theorem dX0_rowOfTask_0 : decode cX0_rowOfTask 0 = .ok (.iload_n 0, 1) := by decide +kernel
theorem dX0_rowOfTask_1 : decode cX0_rowOfTask 1 = .ok (.bipush 8, 2) := by decide +kernel
theorem dX0_rowOfTask_3 : decode cX0_rowOfTask 3 = .ok (.imul, 1) := by decide +kernel
theorem dX0_rowOfTask_4 : decode cX0_rowOfTask 4 = .ok (.iload_n 1, 1) := by decide +kernel
theorem dX0_rowOfTask_5 : decode cX0_rowOfTask 5 = .ok (.iadd, 1) := by decide +kernel
theorem dX0_rowOfTask_6 : decode cX0_rowOfTask 6 = .ok (.ireturn, 1) := by decide +kernel
theorem dX0_sumOfProjects_0 : decode cX0_sumOfProjects 0 = .ok (.iconst 0, 1) := by decide +kernel
theorem dX0_sumOfProjects_1 : decode cX0_sumOfProjects 1 = .ok (.istore_n 2, 1) := by decide +kernel
theorem dX0_sumOfProjects_2 : decode cX0_sumOfProjects 2 = .ok (.iconst 0, 1) := by decide +kernel
theorem dX0_sumOfProjects_3 : decode cX0_sumOfProjects 3 = .ok (.istore_n 3, 1) := by decide +kernel
theorem dX0_sumOfProjects_4 : decode cX0_sumOfProjects 4 = .ok (.iload_n 3, 1) := by decide +kernel
theorem dX0_sumOfProjects_5 : decode cX0_sumOfProjects 5 = .ok (.aload_n 0, 1) := by decide +kernel
theorem dX0_sumOfProjects_6 : decode cX0_sumOfProjects 6 = .ok (.getfield 44, 3) := by decide +kernel
theorem dX0_sumOfProjects_9 : decode cX0_sumOfProjects 9 = .ok (.if_icmp .ge 21, 3) := by decide +kernel
theorem dX0_sumOfProjects_12 : decode cX0_sumOfProjects 12 = .ok (.iload_n 2, 1) := by decide +kernel
theorem dX0_sumOfProjects_13 : decode cX0_sumOfProjects 13 = .ok (.aload_n 0, 1) := by decide +kernel
theorem dX0_sumOfProjects_14 : decode cX0_sumOfProjects 14 = .ok (.getfield 14, 3) := by decide +kernel
theorem dX0_sumOfProjects_17 : decode cX0_sumOfProjects 17 = .ok (.iload_n 3, 1) := by decide +kernel
theorem dX0_sumOfProjects_18 : decode cX0_sumOfProjects 18 = .ok (.iload_n 1, 1) := by decide +kernel
theorem dX0_sumOfProjects_19 : decode cX0_sumOfProjects 19 = .ok (.invokevirtual 51, 3) := by decide +kernel
theorem dX0_sumOfProjects_22 : decode cX0_sumOfProjects 22 = .ok (.iadd, 1) := by decide +kernel
theorem dX0_sumOfProjects_23 : decode cX0_sumOfProjects 23 = .ok (.istore_n 2, 1) := by decide +kernel
theorem dX0_sumOfProjects_24 : decode cX0_sumOfProjects 24 = .ok (.iinc 3 1, 3) := by decide +kernel
theorem dX0_sumOfProjects_27 : decode cX0_sumOfProjects 27 = .ok (.goto (-23), 3) := by decide +kernel
theorem dX0_sumOfProjects_30 : decode cX0_sumOfProjects 30 = .ok (.iload_n 2, 1) := by decide +kernel
theorem dX0_sumOfProjects_31 : decode cX0_sumOfProjects 31 = .ok (.ireturn, 1) := by decide +kernel
theorem dX0_delayOfTasks_0 : decode cX0_delayOfTasks 0 = .ok (.iconst 0, 1) := by decide +kernel
theorem dX0_delayOfTasks_1 : decode cX0_delayOfTasks 1 = .ok (.istore_n 1, 1) := by decide +kernel
theorem dX0_delayOfTasks_2 : decode cX0_delayOfTasks 2 = .ok (.iconst 0, 1) := by decide +kernel
theorem dX0_delayOfTasks_3 : decode cX0_delayOfTasks 3 = .ok (.istore_n 2, 1) := by decide +kernel
theorem dX0_delayOfTasks_4 : decode cX0_delayOfTasks 4 = .ok (.iload_n 2, 1) := by decide +kernel
theorem dX0_delayOfTasks_5 : decode cX0_delayOfTasks 5 = .ok (.aload_n 0, 1) := by decide +kernel
theorem dX0_delayOfTasks_6 : decode cX0_delayOfTasks 6 = .ok (.getfield 44, 3) := by decide +kernel
theorem dX0_delayOfTasks_9 : decode cX0_delayOfTasks 9 = .ok (.if_icmp .ge 66, 3) := by decide +kernel
theorem dX0_delayOfTasks_12 : decode cX0_delayOfTasks 12 = .ok (.iconst 0, 1) := by decide +kernel
theorem dX0_delayOfTasks_13 : decode cX0_delayOfTasks 13 = .ok (.istore_n 3, 1) := by decide +kernel
theorem dX0_delayOfTasks_14 : decode cX0_delayOfTasks 14 = .ok (.iload_n 3, 1) := by decide +kernel
theorem dX0_delayOfTasks_15 : decode cX0_delayOfTasks 15 = .ok (.aload_n 0, 1) := by decide +kernel
theorem dX0_delayOfTasks_16 : decode cX0_delayOfTasks 16 = .ok (.getfield 14, 3) := by decide +kernel
theorem dX0_delayOfTasks_19 : decode cX0_delayOfTasks 19 = .ok (.iload_n 2, 1) := by decide +kernel
theorem dX0_delayOfTasks_20 : decode cX0_delayOfTasks 20 = .ok (.bipush 8, 2) := by decide +kernel
theorem dX0_delayOfTasks_22 : decode cX0_delayOfTasks 22 = .ok (.invokevirtual 51, 3) := by decide +kernel
theorem dX0_delayOfTasks_25 : decode cX0_delayOfTasks 25 = .ok (.if_icmp .ge 44, 3) := by decide +kernel
theorem dX0_delayOfTasks_28 : decode cX0_delayOfTasks 28 = .ok (.iload_n 2, 1) := by decide +kernel
theorem dX0_delayOfTasks_29 : decode cX0_delayOfTasks 29 = .ok (.iload_n 3, 1) := by decide +kernel
theorem dX0_delayOfTasks_30 : decode cX0_delayOfTasks 30 = .ok (.invokestatic 62, 3) := by decide +kernel
theorem dX0_delayOfTasks_33 : decode cX0_delayOfTasks 33 = .ok (.istore 4, 2) := by decide +kernel
theorem dX0_delayOfTasks_35 : decode cX0_delayOfTasks 35 = .ok (.iload_n 1, 1) := by decide +kernel
theorem dX0_delayOfTasks_36 : decode cX0_delayOfTasks 36 = .ok (.iconst 0, 1) := by decide +kernel
theorem dX0_delayOfTasks_37 : decode cX0_delayOfTasks 37 = .ok (.aload_n 0, 1) := by decide +kernel
theorem dX0_delayOfTasks_38 : decode cX0_delayOfTasks 38 = .ok (.getfield 20, 3) := by decide +kernel
theorem dX0_delayOfTasks_41 : decode cX0_delayOfTasks 41 = .ok (.iload 4, 2) := by decide +kernel
theorem dX0_delayOfTasks_43 : decode cX0_delayOfTasks 43 = .ok (.iconst 1, 1) := by decide +kernel
theorem dX0_delayOfTasks_44 : decode cX0_delayOfTasks 44 = .ok (.invokevirtual 51, 3) := by decide +kernel
theorem dX0_delayOfTasks_47 : decode cX0_delayOfTasks 47 = .ok (.aload_n 0, 1) := by decide +kernel
theorem dX0_delayOfTasks_48 : decode cX0_delayOfTasks 48 = .ok (.getfield 20, 3) := by decide +kernel
theorem dX0_delayOfTasks_51 : decode cX0_delayOfTasks 51 = .ok (.iload 4, 2) := by decide +kernel
theorem dX0_delayOfTasks_53 : decode cX0_delayOfTasks 53 = .ok (.iconst 0, 1) := by decide +kernel
theorem dX0_delayOfTasks_54 : decode cX0_delayOfTasks 54 = .ok (.invokevirtual 51, 3) := by decide +kernel
theorem dX0_delayOfTasks_57 : decode cX0_delayOfTasks 57 = .ok (.isub, 1) := by decide +kernel
theorem dX0_delayOfTasks_58 : decode cX0_delayOfTasks 58 = .ok (.invokestatic 68, 3) := by decide +kernel
theorem dX0_delayOfTasks_61 : decode cX0_delayOfTasks 61 = .ok (.iadd, 1) := by decide +kernel
theorem dX0_delayOfTasks_62 : decode cX0_delayOfTasks 62 = .ok (.istore_n 1, 1) := by decide +kernel
theorem dX0_delayOfTasks_63 : decode cX0_delayOfTasks 63 = .ok (.iinc 3 1, 3) := by decide +kernel
theorem dX0_delayOfTasks_66 : decode cX0_delayOfTasks 66 = .ok (.goto (-52), 3) := by decide +kernel
theorem dX0_delayOfTasks_69 : decode cX0_delayOfTasks 69 = .ok (.iinc 2 1, 3) := by decide +kernel
theorem dX0_delayOfTasks_72 : decode cX0_delayOfTasks 72 = .ok (.goto (-68), 3) := by decide +kernel
theorem dX0_delayOfTasks_75 : decode cX0_delayOfTasks 75 = .ok (.iload_n 1, 1) := by decide +kernel
theorem dX0_delayOfTasks_76 : decode cX0_delayOfTasks 76 = .ok (.ireturn, 1) := by decide +kernel
theorem dX0_leastDaysLeft_0 : decode cX0_leastDaysLeft 0 = .ok (.iconst (-1), 1) := by decide +kernel
theorem dX0_leastDaysLeft_1 : decode cX0_leastDaysLeft 1 = .ok (.istore_n 1, 1) := by decide +kernel
theorem dX0_leastDaysLeft_2 : decode cX0_leastDaysLeft 2 = .ok (.iconst 0, 1) := by decide +kernel
theorem dX0_leastDaysLeft_3 : decode cX0_leastDaysLeft 3 = .ok (.istore_n 2, 1) := by decide +kernel
theorem dX0_leastDaysLeft_4 : decode cX0_leastDaysLeft 4 = .ok (.iload_n 2, 1) := by decide +kernel
theorem dX0_leastDaysLeft_5 : decode cX0_leastDaysLeft 5 = .ok (.aload_n 0, 1) := by decide +kernel
theorem dX0_leastDaysLeft_6 : decode cX0_leastDaysLeft 6 = .ok (.getfield 44, 3) := by decide +kernel
theorem dX0_leastDaysLeft_9 : decode cX0_leastDaysLeft 9 = .ok (.if_icmp .ge 39, 3) := by decide +kernel
theorem dX0_leastDaysLeft_12 : decode cX0_leastDaysLeft 12 = .ok (.aload_n 0, 1) := by decide +kernel
theorem dX0_leastDaysLeft_13 : decode cX0_leastDaysLeft 13 = .ok (.getfield 14, 3) := by decide +kernel
theorem dX0_leastDaysLeft_16 : decode cX0_leastDaysLeft 16 = .ok (.iload_n 2, 1) := by decide +kernel
theorem dX0_leastDaysLeft_17 : decode cX0_leastDaysLeft 17 = .ok (.iconst 2, 1) := by decide +kernel
theorem dX0_leastDaysLeft_18 : decode cX0_leastDaysLeft 18 = .ok (.invokevirtual 51, 3) := by decide +kernel
theorem dX0_leastDaysLeft_21 : decode cX0_leastDaysLeft 21 = .ok (.istore_n 3, 1) := by decide +kernel
theorem dX0_leastDaysLeft_22 : decode cX0_leastDaysLeft 22 = .ok (.aload_n 0, 1) := by decide +kernel
theorem dX0_leastDaysLeft_23 : decode cX0_leastDaysLeft 23 = .ok (.iload_n 2, 1) := by decide +kernel
theorem dX0_leastDaysLeft_24 : decode cX0_leastDaysLeft 24 = .ok (.invokevirtual 55, 3) := by decide +kernel
theorem dX0_leastDaysLeft_27 : decode cX0_leastDaysLeft 27 = .ok (.ifCond .eq 15, 3) := by decide +kernel
theorem dX0_leastDaysLeft_30 : decode cX0_leastDaysLeft 30 = .ok (.iload_n 1, 1) := by decide +kernel
theorem dX0_leastDaysLeft_31 : decode cX0_leastDaysLeft 31 = .ok (.iconst (-1), 1) := by decide +kernel
theorem dX0_leastDaysLeft_32 : decode cX0_leastDaysLeft 32 = .ok (.if_icmp .eq 8, 3) := by decide +kernel
theorem dX0_leastDaysLeft_35 : decode cX0_leastDaysLeft 35 = .ok (.iload_n 3, 1) := by decide +kernel
theorem dX0_leastDaysLeft_36 : decode cX0_leastDaysLeft 36 = .ok (.iload_n 1, 1) := by decide +kernel
theorem dX0_leastDaysLeft_37 : decode cX0_leastDaysLeft 37 = .ok (.if_icmp .ge 5, 3) := by decide +kernel
theorem dX0_leastDaysLeft_40 : decode cX0_leastDaysLeft 40 = .ok (.iload_n 3, 1) := by decide +kernel
theorem dX0_leastDaysLeft_41 : decode cX0_leastDaysLeft 41 = .ok (.istore_n 1, 1) := by decide +kernel
theorem dX0_leastDaysLeft_42 : decode cX0_leastDaysLeft 42 = .ok (.iinc 2 1, 3) := by decide +kernel
theorem dX0_leastDaysLeft_45 : decode cX0_leastDaysLeft 45 = .ok (.goto (-41), 3) := by decide +kernel
theorem dX0_leastDaysLeft_48 : decode cX0_leastDaysLeft 48 = .ok (.iload_n 1, 1) := by decide +kernel
theorem dX0_leastDaysLeft_49 : decode cX0_leastDaysLeft 49 = .ok (.ireturn, 1) := by decide +kernel
theorem dX0_doNextTask_0 : decode cX0_doNextTask 0 = .ok (.iload_n 1, 1) := by decide +kernel
theorem dX0_doNextTask_1 : decode cX0_doNextTask 1 = .ok (.aload_n 0, 1) := by decide +kernel
theorem dX0_doNextTask_2 : decode cX0_doNextTask 2 = .ok (.getfield 14, 3) := by decide +kernel
theorem dX0_doNextTask_5 : decode cX0_doNextTask 5 = .ok (.iload_n 1, 1) := by decide +kernel
theorem dX0_doNextTask_6 : decode cX0_doNextTask 6 = .ok (.bipush 8, 2) := by decide +kernel
theorem dX0_doNextTask_8 : decode cX0_doNextTask 8 = .ok (.invokevirtual 51, 3) := by decide +kernel
theorem dX0_doNextTask_11 : decode cX0_doNextTask 11 = .ok (.invokestatic 62, 3) := by decide +kernel
theorem dX0_doNextTask_14 : decode cX0_doNextTask 14 = .ok (.istore_n 3, 1) := by decide +kernel
theorem dX0_doNextTask_15 : decode cX0_doNextTask 15 = .ok (.aload_n 0, 1) := by decide +kernel
theorem dX0_doNextTask_16 : decode cX0_doNextTask 16 = .ok (.getfield 20, 3) := by decide +kernel
theorem dX0_doNextTask_19 : decode cX0_doNextTask 19 = .ok (.iload_n 3, 1) := by decide +kernel
theorem dX0_doNextTask_20 : decode cX0_doNextTask 20 = .ok (.iconst 0, 1) := by decide +kernel
theorem dX0_doNextTask_21 : decode cX0_doNextTask 21 = .ok (.invokevirtual 51, 3) := by decide +kernel
theorem dX0_doNextTask_24 : decode cX0_doNextTask 24 = .ok (.istore 4, 2) := by decide +kernel
theorem dX0_doNextTask_26 : decode cX0_doNextTask 26 = .ok (.iconst 0, 1) := by decide +kernel
theorem dX0_doNextTask_27 : decode cX0_doNextTask 27 = .ok (.iload 4, 2) := by decide +kernel
theorem dX0_doNextTask_29 : decode cX0_doNextTask 29 = .ok (.iload_n 2, 1) := by decide +kernel
theorem dX0_doNextTask_30 : decode cX0_doNextTask 30 = .ok (.isub, 1) := by decide +kernel
theorem dX0_doNextTask_31 : decode cX0_doNextTask 31 = .ok (.invokestatic 68, 3) := by decide +kernel
theorem dX0_doNextTask_34 : decode cX0_doNextTask 34 = .ok (.istore 5, 2) := by decide +kernel
theorem dX0_doNextTask_36 : decode cX0_doNextTask 36 = .ok (.iconst 0, 1) := by decide +kernel
theorem dX0_doNextTask_37 : decode cX0_doNextTask 37 = .ok (.iload_n 2, 1) := by decide +kernel
theorem dX0_doNextTask_38 : decode cX0_doNextTask 38 = .ok (.iload 4, 2) := by decide +kernel
theorem dX0_doNextTask_40 : decode cX0_doNextTask 40 = .ok (.isub, 1) := by decide +kernel
theorem dX0_doNextTask_41 : decode cX0_doNextTask 41 = .ok (.invokestatic 68, 3) := by decide +kernel
theorem dX0_doNextTask_44 : decode cX0_doNextTask 44 = .ok (.istore 6, 2) := by decide +kernel
theorem dX0_doNextTask_46 : decode cX0_doNextTask 46 = .ok (.aload_n 0, 1) := by decide +kernel
theorem dX0_doNextTask_47 : decode cX0_doNextTask 47 = .ok (.getfield 20, 3) := by decide +kernel
theorem dX0_doNextTask_50 : decode cX0_doNextTask 50 = .ok (.iload_n 3, 1) := by decide +kernel
theorem dX0_doNextTask_51 : decode cX0_doNextTask 51 = .ok (.iconst 1, 1) := by decide +kernel
theorem dX0_doNextTask_52 : decode cX0_doNextTask 52 = .ok (.iload_n 2, 1) := by decide +kernel
theorem dX0_doNextTask_53 : decode cX0_doNextTask 53 = .ok (.invokevirtual 36, 3) := by decide +kernel
theorem dX0_doNextTask_56 : decode cX0_doNextTask 56 = .ok (.aload_n 0, 1) := by decide +kernel
theorem dX0_doNextTask_57 : decode cX0_doNextTask 57 = .ok (.getfield 14, 3) := by decide +kernel
theorem dX0_doNextTask_60 : decode cX0_doNextTask 60 = .ok (.iload_n 1, 1) := by decide +kernel
theorem dX0_doNextTask_61 : decode cX0_doNextTask 61 = .ok (.bipush 8, 2) := by decide +kernel
theorem dX0_doNextTask_63 : decode cX0_doNextTask 63 = .ok (.iconst 1, 1) := by decide +kernel
theorem dX0_doNextTask_64 : decode cX0_doNextTask 64 = .ok (.invokevirtual 65, 3) := by decide +kernel
theorem dX0_doNextTask_67 : decode cX0_doNextTask 67 = .ok (.aload_n 0, 1) := by decide +kernel
theorem dX0_doNextTask_68 : decode cX0_doNextTask 68 = .ok (.getfield 14, 3) := by decide +kernel
theorem dX0_doNextTask_71 : decode cX0_doNextTask 71 = .ok (.iload_n 1, 1) := by decide +kernel
theorem dX0_doNextTask_72 : decode cX0_doNextTask 72 = .ok (.bipush 13, 2) := by decide +kernel
theorem dX0_doNextTask_74 : decode cX0_doNextTask 74 = .ok (.iload_n 2, 1) := by decide +kernel
theorem dX0_doNextTask_75 : decode cX0_doNextTask 75 = .ok (.invokevirtual 65, 3) := by decide +kernel
theorem dX0_doNextTask_78 : decode cX0_doNextTask 78 = .ok (.aload_n 0, 1) := by decide +kernel
theorem dX0_doNextTask_79 : decode cX0_doNextTask 79 = .ok (.iload_n 1, 1) := by decide +kernel
theorem dX0_doNextTask_80 : decode cX0_doNextTask 80 = .ok (.iload 5, 2) := by decide +kernel
theorem dX0_doNextTask_82 : decode cX0_doNextTask 82 = .ok (.ineg, 1) := by decide +kernel
theorem dX0_doNextTask_83 : decode cX0_doNextTask 83 = .ok (.invokevirtual 73, 3) := by decide +kernel
theorem dX0_doNextTask_86 : decode cX0_doNextTask 86 = .ok (.aload_n 0, 1) := by decide +kernel
theorem dX0_doNextTask_87 : decode cX0_doNextTask 87 = .ok (.iload_n 1, 1) := by decide +kernel
theorem dX0_doNextTask_88 : decode cX0_doNextTask 88 = .ok (.iload 5, 2) := by decide +kernel
theorem dX0_doNextTask_90 : decode cX0_doNextTask 90 = .ok (.invokevirtual 76, 3) := by decide +kernel
theorem dX0_doNextTask_93 : decode cX0_doNextTask 93 = .ok (.iload 6, 2) := by decide +kernel
theorem dX0_doNextTask_95 : decode cX0_doNextTask 95 = .ok (.aload_n 0, 1) := by decide +kernel
theorem dX0_doNextTask_96 : decode cX0_doNextTask 96 = .ok (.getfield 14, 3) := by decide +kernel
theorem dX0_doNextTask_99 : decode cX0_doNextTask 99 = .ok (.iload_n 1, 1) := by decide +kernel
theorem dX0_doNextTask_100 : decode cX0_doNextTask 100 = .ok (.iconst 2, 1) := by decide +kernel
theorem dX0_doNextTask_101 : decode cX0_doNextTask 101 = .ok (.invokevirtual 51, 3) := by decide +kernel
theorem dX0_doNextTask_104 : decode cX0_doNextTask 104 = .ok (.invokestatic 79, 3) := by decide +kernel
theorem dX0_doNextTask_107 : decode cX0_doNextTask 107 = .ok (.istore 7, 2) := by decide +kernel
theorem dX0_doNextTask_109 : decode cX0_doNextTask 109 = .ok (.aload_n 0, 1) := by decide +kernel
theorem dX0_doNextTask_110 : decode cX0_doNextTask 110 = .ok (.iload_n 1, 1) := by decide +kernel
theorem dX0_doNextTask_111 : decode cX0_doNextTask 111 = .ok (.iload 7, 2) := by decide +kernel
theorem dX0_doNextTask_113 : decode cX0_doNextTask 113 = .ok (.invokevirtual 73, 3) := by decide +kernel
theorem dX0_doNextTask_116 : decode cX0_doNextTask 116 = .ok (.aload_n 0, 1) := by decide +kernel
theorem dX0_doNextTask_117 : decode cX0_doNextTask 117 = .ok (.iload_n 1, 1) := by decide +kernel
theorem dX0_doNextTask_118 : decode cX0_doNextTask 118 = .ok (.iload 6, 2) := by decide +kernel
theorem dX0_doNextTask_120 : decode cX0_doNextTask 120 = .ok (.iload 7, 2) := by decide +kernel
theorem dX0_doNextTask_122 : decode cX0_doNextTask 122 = .ok (.isub, 1) := by decide +kernel
theorem dX0_doNextTask_123 : decode cX0_doNextTask 123 = .ok (.invokevirtual 82, 3) := by decide +kernel
theorem dX0_doNextTask_126 : decode cX0_doNextTask 126 = .ok (.istore 8, 2) := by decide +kernel
theorem dX0_doNextTask_128 : decode cX0_doNextTask 128 = .ok (.aload_n 0, 1) := by decide +kernel
theorem dX0_doNextTask_129 : decode cX0_doNextTask 129 = .ok (.iload_n 1, 1) := by decide +kernel
theorem dX0_doNextTask_130 : decode cX0_doNextTask 130 = .ok (.iload 6, 2) := by decide +kernel
theorem dX0_doNextTask_132 : decode cX0_doNextTask 132 = .ok (.iload 7, 2) := by decide +kernel
theorem dX0_doNextTask_134 : decode cX0_doNextTask 134 = .ok (.isub, 1) := by decide +kernel
theorem dX0_doNextTask_135 : decode cX0_doNextTask 135 = .ok (.iload 8, 2) := by decide +kernel
theorem dX0_doNextTask_137 : decode cX0_doNextTask 137 = .ok (.isub, 1) := by decide +kernel
theorem dX0_doNextTask_138 : decode cX0_doNextTask 138 = .ok (.invokevirtual 85, 3) := by decide +kernel
theorem dX0_doNextTask_141 : decode cX0_doNextTask 141 = .ok (.istore 9, 2) := by decide +kernel
theorem dX0_doNextTask_143 : decode cX0_doNextTask 143 = .ok (.iload 6, 2) := by decide +kernel
theorem dX0_doNextTask_145 : decode cX0_doNextTask 145 = .ok (.iload 7, 2) := by decide +kernel
theorem dX0_doNextTask_147 : decode cX0_doNextTask 147 = .ok (.isub, 1) := by decide +kernel
theorem dX0_doNextTask_148 : decode cX0_doNextTask 148 = .ok (.iload 8, 2) := by decide +kernel
theorem dX0_doNextTask_150 : decode cX0_doNextTask 150 = .ok (.isub, 1) := by decide +kernel
theorem dX0_doNextTask_151 : decode cX0_doNextTask 151 = .ok (.iload 9, 2) := by decide +kernel
theorem dX0_doNextTask_153 : decode cX0_doNextTask 153 = .ok (.isub, 1) := by decide +kernel
theorem dX0_doNextTask_154 : decode cX0_doNextTask 154 = .ok (.istore 10, 2) := by decide +kernel
theorem dX0_doNextTask_156 : decode cX0_doNextTask 156 = .ok (.aload_n 0, 1) := by decide +kernel
theorem dX0_doNextTask_157 : decode cX0_doNextTask 157 = .ok (.getfield 20, 3) := by decide +kernel
theorem dX0_doNextTask_160 : decode cX0_doNextTask 160 = .ok (.iload_n 3, 1) := by decide +kernel
theorem dX0_doNextTask_161 : decode cX0_doNextTask 161 = .ok (.iconst 2, 1) := by decide +kernel
theorem dX0_doNextTask_162 : decode cX0_doNextTask 162 = .ok (.iload 7, 2) := by decide +kernel
theorem dX0_doNextTask_164 : decode cX0_doNextTask 164 = .ok (.invokevirtual 36, 3) := by decide +kernel
theorem dX0_doNextTask_167 : decode cX0_doNextTask 167 = .ok (.aload_n 0, 1) := by decide +kernel
theorem dX0_doNextTask_168 : decode cX0_doNextTask 168 = .ok (.getfield 20, 3) := by decide +kernel
theorem dX0_doNextTask_171 : decode cX0_doNextTask 171 = .ok (.iload_n 3, 1) := by decide +kernel
theorem dX0_doNextTask_172 : decode cX0_doNextTask 172 = .ok (.iconst 3, 1) := by decide +kernel
theorem dX0_doNextTask_173 : decode cX0_doNextTask 173 = .ok (.iload 8, 2) := by decide +kernel
theorem dX0_doNextTask_175 : decode cX0_doNextTask 175 = .ok (.invokevirtual 36, 3) := by decide +kernel
theorem dX0_doNextTask_178 : decode cX0_doNextTask 178 = .ok (.aload_n 0, 1) := by decide +kernel
theorem dX0_doNextTask_179 : decode cX0_doNextTask 179 = .ok (.getfield 20, 3) := by decide +kernel
theorem dX0_doNextTask_182 : decode cX0_doNextTask 182 = .ok (.iload_n 3, 1) := by decide +kernel
theorem dX0_doNextTask_183 : decode cX0_doNextTask 183 = .ok (.iconst 4, 1) := by decide +kernel
theorem dX0_doNextTask_184 : decode cX0_doNextTask 184 = .ok (.iload 9, 2) := by decide +kernel
theorem dX0_doNextTask_186 : decode cX0_doNextTask 186 = .ok (.invokevirtual 36, 3) := by decide +kernel
theorem dX0_doNextTask_189 : decode cX0_doNextTask 189 = .ok (.aload_n 0, 1) := by decide +kernel
theorem dX0_doNextTask_190 : decode cX0_doNextTask 190 = .ok (.getfield 20, 3) := by decide +kernel
theorem dX0_doNextTask_193 : decode cX0_doNextTask 193 = .ok (.iload_n 3, 1) := by decide +kernel
theorem dX0_doNextTask_194 : decode cX0_doNextTask 194 = .ok (.iconst 5, 1) := by decide +kernel
theorem dX0_doNextTask_195 : decode cX0_doNextTask 195 = .ok (.iload 10, 2) := by decide +kernel
theorem dX0_doNextTask_197 : decode cX0_doNextTask 197 = .ok (.invokevirtual 36, 3) := by decide +kernel
theorem dX0_doNextTask_200 : decode cX0_doNextTask 200 = .ok (.aload_n 0, 1) := by decide +kernel
theorem dX0_doNextTask_201 : decode cX0_doNextTask 201 = .ok (.getfield 14, 3) := by decide +kernel
theorem dX0_doNextTask_204 : decode cX0_doNextTask 204 = .ok (.iload_n 1, 1) := by decide +kernel
theorem dX0_doNextTask_205 : decode cX0_doNextTask 205 = .ok (.bipush 6, 2) := by decide +kernel
theorem dX0_doNextTask_207 : decode cX0_doNextTask 207 = .ok (.iload 10, 2) := by decide +kernel
theorem dX0_doNextTask_209 : decode cX0_doNextTask 209 = .ok (.invokevirtual 65, 3) := by decide +kernel
theorem dX0_doNextTask_212 : decode cX0_doNextTask 212 = .ok (.aload_n 0, 1) := by decide +kernel
theorem dX0_doNextTask_213 : decode cX0_doNextTask 213 = .ok (.iload_n 1, 1) := by decide +kernel
theorem dX0_doNextTask_214 : decode cX0_doNextTask 214 = .ok (.invokevirtual 88, 3) := by decide +kernel
theorem dX0_doNextTask_217 : decode cX0_doNextTask 217 = .ok (.ifCond .eq 30, 3) := by decide +kernel
theorem dX0_doNextTask_220 : decode cX0_doNextTask 220 = .ok (.aload_n 0, 1) := by decide +kernel
theorem dX0_doNextTask_221 : decode cX0_doNextTask 221 = .ok (.iload_n 1, 1) := by decide +kernel
theorem dX0_doNextTask_222 : decode cX0_doNextTask 222 = .ok (.aload_n 0, 1) := by decide +kernel
theorem dX0_doNextTask_223 : decode cX0_doNextTask 223 = .ok (.getfield 14, 3) := by decide +kernel
theorem dX0_doNextTask_226 : decode cX0_doNextTask 226 = .ok (.iload_n 1, 1) := by decide +kernel
theorem dX0_doNextTask_227 : decode cX0_doNextTask 227 = .ok (.iconst 2, 1) := by decide +kernel
theorem dX0_doNextTask_228 : decode cX0_doNextTask 228 = .ok (.invokevirtual 51, 3) := by decide +kernel
theorem dX0_doNextTask_231 : decode cX0_doNextTask 231 = .ok (.aload_n 0, 1) := by decide +kernel
theorem dX0_doNextTask_232 : decode cX0_doNextTask 232 = .ok (.getfield 30, 3) := by decide +kernel
theorem dX0_doNextTask_235 : decode cX0_doNextTask 235 = .ok (.iconst 0, 1) := by decide +kernel
theorem dX0_doNextTask_236 : decode cX0_doNextTask 236 = .ok (.iconst 2, 1) := by decide +kernel
theorem dX0_doNextTask_237 : decode cX0_doNextTask 237 = .ok (.invokevirtual 51, 3) := by decide +kernel
theorem dX0_doNextTask_240 : decode cX0_doNextTask 240 = .ok (.imul, 1) := by decide +kernel
theorem dX0_doNextTask_241 : decode cX0_doNextTask 241 = .ok (.bipush 100, 2) := by decide +kernel
theorem dX0_doNextTask_243 : decode cX0_doNextTask 243 = .ok (.idiv, 1) := by decide +kernel
theorem dX0_doNextTask_244 : decode cX0_doNextTask 244 = .ok (.invokevirtual 76, 3) := by decide +kernel
theorem dX0_doNextTask_247 : decode cX0_doNextTask 247 = .ok (.iload 10, 2) := by decide +kernel
theorem dX0_doNextTask_249 : decode cX0_doNextTask 249 = .ok (.ireturn, 1) := by decide +kernel
theorem dX0_useDays_0 : decode cX0_useDays 0 = .ok (.aload_n 0, 1) := by decide +kernel
theorem dX0_useDays_1 : decode cX0_useDays 1 = .ok (.getfield 14, 3) := by decide +kernel
theorem dX0_useDays_4 : decode cX0_useDays 4 = .ok (.iload_n 1, 1) := by decide +kernel
theorem dX0_useDays_5 : decode cX0_useDays 5 = .ok (.iconst 2, 1) := by decide +kernel
theorem dX0_useDays_6 : decode cX0_useDays 6 = .ok (.iload_n 2, 1) := by decide +kernel
theorem dX0_useDays_7 : decode cX0_useDays 7 = .ok (.ineg, 1) := by decide +kernel
theorem dX0_useDays_8 : decode cX0_useDays 8 = .ok (.invokevirtual 65, 3) := by decide +kernel
theorem dX0_useDays_11 : decode cX0_useDays 11 = .ok (.aload_n 0, 1) := by decide +kernel
theorem dX0_useDays_12 : decode cX0_useDays 12 = .ok (.getfield 14, 3) := by decide +kernel
theorem dX0_useDays_15 : decode cX0_useDays 15 = .ok (.iload_n 1, 1) := by decide +kernel
theorem dX0_useDays_16 : decode cX0_useDays 16 = .ok (.iconst 3, 1) := by decide +kernel
theorem dX0_useDays_17 : decode cX0_useDays 17 = .ok (.iload_n 2, 1) := by decide +kernel
theorem dX0_useDays_18 : decode cX0_useDays 18 = .ok (.invokevirtual 65, 3) := by decide +kernel
theorem dX0_useDays_21 : decode cX0_useDays 21 = .ok (.return_, 1) := by decide +kernel
theorem dX0_callBack_0 : decode cX0_callBack 0 = .ok (.iconst 0, 1) := by decide +kernel
theorem dX0_callBack_1 : decode cX0_callBack 1 = .ok (.istore_n 3, 1) := by decide +kernel
theorem dX0_callBack_2 : decode cX0_callBack 2 = .ok (.iconst 0, 1) := by decide +kernel
theorem dX0_callBack_3 : decode cX0_callBack 3 = .ok (.istore 4, 2) := by decide +kernel
theorem dX0_callBack_5 : decode cX0_callBack 5 = .ok (.aload_n 0, 1) := by decide +kernel
theorem dX0_callBack_6 : decode cX0_callBack 6 = .ok (.getfield 48, 3) := by decide +kernel
theorem dX0_callBack_9 : decode cX0_callBack 9 = .ok (.istore 5, 2) := by decide +kernel
theorem dX0_callBack_11 : decode cX0_callBack 11 = .ok (.iload 5, 2) := by decide +kernel
theorem dX0_callBack_13 : decode cX0_callBack 13 = .ok (.ifCond .le 108, 3) := by decide +kernel
theorem dX0_callBack_16 : decode cX0_callBack 16 = .ok (.iload_n 3, 1) := by decide +kernel
theorem dX0_callBack_17 : decode cX0_callBack 17 = .ok (.iload_n 2, 1) := by decide +kernel
theorem dX0_callBack_18 : decode cX0_callBack 18 = .ok (.if_icmp .ge 103, 3) := by decide +kernel
theorem dX0_callBack_21 : decode cX0_callBack 21 = .ok (.aload_n 0, 1) := by decide +kernel
theorem dX0_callBack_22 : decode cX0_callBack 22 = .ok (.getfield 23, 3) := by decide +kernel
theorem dX0_callBack_25 : decode cX0_callBack 25 = .ok (.iload 4, 2) := by decide +kernel
theorem dX0_callBack_27 : decode cX0_callBack 27 = .ok (.iconst 2, 1) := by decide +kernel
theorem dX0_callBack_28 : decode cX0_callBack 28 = .ok (.invokevirtual 51, 3) := by decide +kernel
theorem dX0_callBack_31 : decode cX0_callBack 31 = .ok (.istore 6, 2) := by decide +kernel
theorem dX0_callBack_33 : decode cX0_callBack 33 = .ok (.iconst 0, 1) := by decide +kernel
theorem dX0_callBack_34 : decode cX0_callBack 34 = .ok (.istore 7, 2) := by decide +kernel
theorem dX0_callBack_36 : decode cX0_callBack 36 = .ok (.aload_n 0, 1) := by decide +kernel
theorem dX0_callBack_37 : decode cX0_callBack 37 = .ok (.getfield 23, 3) := by decide +kernel
theorem dX0_callBack_40 : decode cX0_callBack 40 = .ok (.iload 4, 2) := by decide +kernel
theorem dX0_callBack_42 : decode cX0_callBack 42 = .ok (.iconst 0, 1) := by decide +kernel
theorem dX0_callBack_43 : decode cX0_callBack 43 = .ok (.invokevirtual 51, 3) := by decide +kernel
theorem dX0_callBack_46 : decode cX0_callBack 46 = .ok (.iload_n 1, 1) := by decide +kernel
theorem dX0_callBack_47 : decode cX0_callBack 47 = .ok (.if_icmp .ne 58, 3) := by decide +kernel
theorem dX0_callBack_50 : decode cX0_callBack 50 = .ok (.aload_n 0, 1) := by decide +kernel
theorem dX0_callBack_51 : decode cX0_callBack 51 = .ok (.getfield 14, 3) := by decide +kernel
theorem dX0_callBack_54 : decode cX0_callBack 54 = .ok (.aload_n 0, 1) := by decide +kernel
theorem dX0_callBack_55 : decode cX0_callBack 55 = .ok (.getfield 23, 3) := by decide +kernel
theorem dX0_callBack_58 : decode cX0_callBack 58 = .ok (.iload 4, 2) := by decide +kernel
theorem dX0_callBack_60 : decode cX0_callBack 60 = .ok (.iconst 1, 1) := by decide +kernel
theorem dX0_callBack_61 : decode cX0_callBack 61 = .ok (.invokevirtual 51, 3) := by decide +kernel
theorem dX0_callBack_64 : decode cX0_callBack 64 = .ok (.iconst 2, 1) := by decide +kernel
theorem dX0_callBack_65 : decode cX0_callBack 65 = .ok (.invokevirtual 51, 3) := by decide +kernel
theorem dX0_callBack_68 : decode cX0_callBack 68 = .ok (.istore 8, 2) := by decide +kernel
theorem dX0_callBack_70 : decode cX0_callBack 70 = .ok (.iload_n 2, 1) := by decide +kernel
theorem dX0_callBack_71 : decode cX0_callBack 71 = .ok (.iload_n 3, 1) := by decide +kernel
theorem dX0_callBack_72 : decode cX0_callBack 72 = .ok (.isub, 1) := by decide +kernel
theorem dX0_callBack_73 : decode cX0_callBack 73 = .ok (.iload 8, 2) := by decide +kernel
theorem dX0_callBack_75 : decode cX0_callBack 75 = .ok (.iload 6, 2) := by decide +kernel
theorem dX0_callBack_77 : decode cX0_callBack 77 = .ok (.invokestatic 79, 3) := by decide +kernel
theorem dX0_callBack_80 : decode cX0_callBack 80 = .ok (.invokestatic 79, 3) := by decide +kernel
theorem dX0_callBack_83 : decode cX0_callBack 83 = .ok (.istore 7, 2) := by decide +kernel
theorem dX0_callBack_85 : decode cX0_callBack 85 = .ok (.aload_n 0, 1) := by decide +kernel
theorem dX0_callBack_86 : decode cX0_callBack 86 = .ok (.iload 4, 2) := by decide +kernel
theorem dX0_callBack_88 : decode cX0_callBack 88 = .ok (.iload 7, 2) := by decide +kernel
theorem dX0_callBack_90 : decode cX0_callBack 90 = .ok (.invokevirtual 91, 3) := by decide +kernel
theorem dX0_callBack_93 : decode cX0_callBack 93 = .ok (.aload_n 0, 1) := by decide +kernel
theorem dX0_callBack_94 : decode cX0_callBack 94 = .ok (.iload_n 1, 1) := by decide +kernel
theorem dX0_callBack_95 : decode cX0_callBack 95 = .ok (.iload 7, 2) := by decide +kernel
theorem dX0_callBack_97 : decode cX0_callBack 97 = .ok (.invokevirtual 73, 3) := by decide +kernel
theorem dX0_callBack_100 : decode cX0_callBack 100 = .ok (.iload_n 3, 1) := by decide +kernel
theorem dX0_callBack_101 : decode cX0_callBack 101 = .ok (.iload 7, 2) := by decide +kernel
theorem dX0_callBack_103 : decode cX0_callBack 103 = .ok (.iadd, 1) := by decide +kernel
theorem dX0_callBack_104 : decode cX0_callBack 104 = .ok (.istore_n 3, 1) := by decide +kernel
theorem dX0_callBack_105 : decode cX0_callBack 105 = .ok (.iload 7, 2) := by decide +kernel
theorem dX0_callBack_107 : decode cX0_callBack 107 = .ok (.iload 6, 2) := by decide +kernel
theorem dX0_callBack_109 : decode cX0_callBack 109 = .ok (.if_icmp .ge 6, 3) := by decide +kernel
theorem dX0_callBack_112 : decode cX0_callBack 112 = .ok (.iinc 4 1, 3) := by decide +kernel
theorem dX0_callBack_115 : decode cX0_callBack 115 = .ok (.iinc 5 (-1), 3) := by decide +kernel
theorem dX0_callBack_118 : decode cX0_callBack 118 = .ok (.goto (-107), 3) := by decide +kernel
theorem dX0_callBack_121 : decode cX0_callBack 121 = .ok (.iload_n 3, 1) := by decide +kernel
theorem dX0_callBack_122 : decode cX0_callBack 122 = .ok (.ireturn, 1) := by decide +kernel
theorem dX0_borrow_0 : decode cX0_borrow 0 = .ok (.aload_n 0, 1) := by decide +kernel
theorem dX0_borrow_1 : decode cX0_borrow 1 = .ok (.iload_n 1, 1) := by decide +kernel
theorem dX0_borrow_2 : decode cX0_borrow 2 = .ok (.invokevirtual 94, 3) := by decide +kernel
theorem dX0_borrow_5 : decode cX0_borrow 5 = .ok (.istore_n 3, 1) := by decide +kernel
theorem dX0_borrow_6 : decode cX0_borrow 6 = .ok (.iconst 0, 1) := by decide +kernel
theorem dX0_borrow_7 : decode cX0_borrow 7 = .ok (.istore 4, 2) := by decide +kernel
theorem dX0_borrow_9 : decode cX0_borrow 9 = .ok (.iconst 0, 1) := by decide +kernel
theorem dX0_borrow_10 : decode cX0_borrow 10 = .ok (.istore 5, 2) := by decide +kernel
theorem dX0_borrow_12 : decode cX0_borrow 12 = .ok (.iload 5, 2) := by decide +kernel
theorem dX0_borrow_14 : decode cX0_borrow 14 = .ok (.iload_n 3, 1) := by decide +kernel
theorem dX0_borrow_15 : decode cX0_borrow 15 = .ok (.if_icmp .ge 65, 3) := by decide +kernel
theorem dX0_borrow_18 : decode cX0_borrow 18 = .ok (.iload 4, 2) := by decide +kernel
theorem dX0_borrow_20 : decode cX0_borrow 20 = .ok (.iload_n 2, 1) := by decide +kernel
theorem dX0_borrow_21 : decode cX0_borrow 21 = .ok (.if_icmp .ge 59, 3) := by decide +kernel
theorem dX0_borrow_24 : decode cX0_borrow 24 = .ok (.iload_n 2, 1) := by decide +kernel
theorem dX0_borrow_25 : decode cX0_borrow 25 = .ok (.iload 4, 2) := by decide +kernel
theorem dX0_borrow_27 : decode cX0_borrow 27 = .ok (.isub, 1) := by decide +kernel
theorem dX0_borrow_28 : decode cX0_borrow 28 = .ok (.aload_n 0, 1) := by decide +kernel
theorem dX0_borrow_29 : decode cX0_borrow 29 = .ok (.getfield 33, 3) := by decide +kernel
theorem dX0_borrow_32 : decode cX0_borrow 32 = .ok (.iload 5, 2) := by decide +kernel
theorem dX0_borrow_34 : decode cX0_borrow 34 = .ok (.iconst 1, 1) := by decide +kernel
theorem dX0_borrow_35 : decode cX0_borrow 35 = .ok (.invokevirtual 51, 3) := by decide +kernel
theorem dX0_borrow_38 : decode cX0_borrow 38 = .ok (.invokestatic 79, 3) := by decide +kernel
theorem dX0_borrow_41 : decode cX0_borrow 41 = .ok (.istore 6, 2) := by decide +kernel
theorem dX0_borrow_43 : decode cX0_borrow 43 = .ok (.aload_n 0, 1) := by decide +kernel
theorem dX0_borrow_44 : decode cX0_borrow 44 = .ok (.aload_n 0, 1) := by decide +kernel
theorem dX0_borrow_45 : decode cX0_borrow 45 = .ok (.getfield 33, 3) := by decide +kernel
theorem dX0_borrow_48 : decode cX0_borrow 48 = .ok (.iload 5, 2) := by decide +kernel
theorem dX0_borrow_50 : decode cX0_borrow 50 = .ok (.iconst 0, 1) := by decide +kernel
theorem dX0_borrow_51 : decode cX0_borrow 51 = .ok (.invokevirtual 51, 3) := by decide +kernel
theorem dX0_borrow_54 : decode cX0_borrow 54 = .ok (.iload_n 1, 1) := by decide +kernel
theorem dX0_borrow_55 : decode cX0_borrow 55 = .ok (.iload 6, 2) := by decide +kernel
theorem dX0_borrow_57 : decode cX0_borrow 57 = .ok (.invokevirtual 98, 3) := by decide +kernel
theorem dX0_borrow_60 : decode cX0_borrow 60 = .ok (.aload_n 0, 1) := by decide +kernel
theorem dX0_borrow_61 : decode cX0_borrow 61 = .ok (.iload_n 1, 1) := by decide +kernel
theorem dX0_borrow_62 : decode cX0_borrow 62 = .ok (.iload 6, 2) := by decide +kernel
theorem dX0_borrow_64 : decode cX0_borrow 64 = .ok (.invokevirtual 73, 3) := by decide +kernel
theorem dX0_borrow_67 : decode cX0_borrow 67 = .ok (.iload 4, 2) := by decide +kernel
theorem dX0_borrow_69 : decode cX0_borrow 69 = .ok (.iload 6, 2) := by decide +kernel
theorem dX0_borrow_71 : decode cX0_borrow 71 = .ok (.iadd, 1) := by decide +kernel
theorem dX0_borrow_72 : decode cX0_borrow 72 = .ok (.istore 4, 2) := by decide +kernel
theorem dX0_borrow_74 : decode cX0_borrow 74 = .ok (.iinc 5 1, 3) := by decide +kernel
theorem dX0_borrow_77 : decode cX0_borrow 77 = .ok (.goto (-65), 3) := by decide +kernel
theorem dX0_borrow_80 : decode cX0_borrow 80 = .ok (.iload 4, 2) := by decide +kernel
theorem dX0_borrow_82 : decode cX0_borrow 82 = .ok (.ireturn, 1) := by decide +kernel
theorem dX0_lenderAt_0 : decode cX0_lenderAt 0 = .ok (.aload_n 0, 1) := by decide +kernel
theorem dX0_lenderAt_1 : decode cX0_lenderAt 1 = .ok (.iload_n 1, 1) := by decide +kernel
theorem dX0_lenderAt_2 : decode cX0_lenderAt 2 = .ok (.invokevirtual 55, 3) := by decide +kernel
theorem dX0_lenderAt_5 : decode cX0_lenderAt 5 = .ok (.ifCond .eq 12, 3) := by decide +kernel
theorem dX0_lenderAt_8 : decode cX0_lenderAt 8 = .ok (.iload_n 2, 1) := by decide +kernel
theorem dX0_lenderAt_9 : decode cX0_lenderAt 9 = .ok (.aload_n 0, 1) := by decide +kernel
theorem dX0_lenderAt_10 : decode cX0_lenderAt 10 = .ok (.iload_n 1, 1) := by decide +kernel
theorem dX0_lenderAt_11 : decode cX0_lenderAt 11 = .ok (.invokevirtual 94, 3) := by decide +kernel
theorem dX0_lenderAt_14 : decode cX0_lenderAt 14 = .ok (.if_icmp .lt 5, 3) := by decide +kernel
theorem dX0_lenderAt_17 : decode cX0_lenderAt 17 = .ok (.iconst (-1), 1) := by decide +kernel
theorem dX0_lenderAt_18 : decode cX0_lenderAt 18 = .ok (.ireturn, 1) := by decide +kernel
theorem dX0_lenderAt_19 : decode cX0_lenderAt 19 = .ok (.aload_n 0, 1) := by decide +kernel
theorem dX0_lenderAt_20 : decode cX0_lenderAt 20 = .ok (.getfield 33, 3) := by decide +kernel
theorem dX0_lenderAt_23 : decode cX0_lenderAt 23 = .ok (.iload_n 2, 1) := by decide +kernel
theorem dX0_lenderAt_24 : decode cX0_lenderAt 24 = .ok (.iconst 0, 1) := by decide +kernel
theorem dX0_lenderAt_25 : decode cX0_lenderAt 25 = .ok (.invokevirtual 51, 3) := by decide +kernel
theorem dX0_lenderAt_28 : decode cX0_lenderAt 28 = .ok (.ireturn, 1) := by decide +kernel
theorem dX0_queueLenders_0 : decode cX0_queueLenders 0 = .ok (.iconst 0, 1) := by decide +kernel
theorem dX0_queueLenders_1 : decode cX0_queueLenders 1 = .ok (.istore_n 2, 1) := by decide +kernel
theorem dX0_queueLenders_2 : decode cX0_queueLenders 2 = .ok (.iconst 0, 1) := by decide +kernel
theorem dX0_queueLenders_3 : decode cX0_queueLenders 3 = .ok (.istore_n 3, 1) := by decide +kernel
theorem dX0_queueLenders_4 : decode cX0_queueLenders 4 = .ok (.iload_n 3, 1) := by decide +kernel
theorem dX0_queueLenders_5 : decode cX0_queueLenders 5 = .ok (.aload_n 0, 1) := by decide +kernel
theorem dX0_queueLenders_6 : decode cX0_queueLenders 6 = .ok (.getfield 44, 3) := by decide +kernel
theorem dX0_queueLenders_9 : decode cX0_queueLenders 9 = .ok (.if_icmp .ge 126, 3) := by decide +kernel
theorem dX0_queueLenders_12 : decode cX0_queueLenders 12 = .ok (.iload_n 3, 1) := by decide +kernel
theorem dX0_queueLenders_13 : decode cX0_queueLenders 13 = .ok (.iload_n 1, 1) := by decide +kernel
theorem dX0_queueLenders_14 : decode cX0_queueLenders 14 = .ok (.if_icmp .eq 20, 3) := by decide +kernel
theorem dX0_queueLenders_17 : decode cX0_queueLenders 17 = .ok (.aload_n 0, 1) := by decide +kernel
theorem dX0_queueLenders_18 : decode cX0_queueLenders 18 = .ok (.iload_n 3, 1) := by decide +kernel
theorem dX0_queueLenders_19 : decode cX0_queueLenders 19 = .ok (.invokevirtual 55, 3) := by decide +kernel
theorem dX0_queueLenders_22 : decode cX0_queueLenders 22 = .ok (.ifCond .eq 12, 3) := by decide +kernel
theorem dX0_queueLenders_25 : decode cX0_queueLenders 25 = .ok (.aload_n 0, 1) := by decide +kernel
theorem dX0_queueLenders_26 : decode cX0_queueLenders 26 = .ok (.iload_n 3, 1) := by decide +kernel
theorem dX0_queueLenders_27 : decode cX0_queueLenders 27 = .ok (.iconst 0, 1) := by decide +kernel
theorem dX0_queueLenders_28 : decode cX0_queueLenders 28 = .ok (.invokevirtual 59, 3) := by decide +kernel
theorem dX0_queueLenders_31 : decode cX0_queueLenders 31 = .ok (.goto 4, 3) := by decide +kernel
theorem dX0_queueLenders_34 : decode cX0_queueLenders 34 = .ok (.iconst 0, 1) := by decide +kernel
theorem dX0_queueLenders_35 : decode cX0_queueLenders 35 = .ok (.istore 4, 2) := by decide +kernel
theorem dX0_queueLenders_37 : decode cX0_queueLenders 37 = .ok (.iload 4, 2) := by decide +kernel
theorem dX0_queueLenders_39 : decode cX0_queueLenders 39 = .ok (.ifCond .le 90, 3) := by decide +kernel
theorem dX0_queueLenders_42 : decode cX0_queueLenders 42 = .ok (.aload_n 0, 1) := by decide +kernel
theorem dX0_queueLenders_43 : decode cX0_queueLenders 43 = .ok (.iload_n 3, 1) := by decide +kernel
theorem dX0_queueLenders_44 : decode cX0_queueLenders 44 = .ok (.iload 4, 2) := by decide +kernel
theorem dX0_queueLenders_46 : decode cX0_queueLenders 46 = .ok (.invokevirtual 101, 3) := by decide +kernel
theorem dX0_queueLenders_49 : decode cX0_queueLenders 49 = .ok (.istore 5, 2) := by decide +kernel
theorem dX0_queueLenders_51 : decode cX0_queueLenders 51 = .ok (.iload_n 2, 1) := by decide +kernel
theorem dX0_queueLenders_52 : decode cX0_queueLenders 52 = .ok (.istore 6, 2) := by decide +kernel
theorem dX0_queueLenders_54 : decode cX0_queueLenders 54 = .ok (.iload 6, 2) := by decide +kernel
theorem dX0_queueLenders_56 : decode cX0_queueLenders 56 = .ok (.ifCond .le 26, 3) := by decide +kernel
theorem dX0_queueLenders_59 : decode cX0_queueLenders 59 = .ok (.aload_n 0, 1) := by decide +kernel
theorem dX0_queueLenders_60 : decode cX0_queueLenders 60 = .ok (.getfield 33, 3) := by decide +kernel
theorem dX0_queueLenders_63 : decode cX0_queueLenders 63 = .ok (.iload 6, 2) := by decide +kernel
theorem dX0_queueLenders_65 : decode cX0_queueLenders 65 = .ok (.iconst 1, 1) := by decide +kernel
theorem dX0_queueLenders_66 : decode cX0_queueLenders 66 = .ok (.isub, 1) := by decide +kernel
theorem dX0_queueLenders_67 : decode cX0_queueLenders 67 = .ok (.iconst 2, 1) := by decide +kernel
theorem dX0_queueLenders_68 : decode cX0_queueLenders 68 = .ok (.invokevirtual 51, 3) := by decide +kernel
theorem dX0_queueLenders_71 : decode cX0_queueLenders 71 = .ok (.iload 5, 2) := by decide +kernel
theorem dX0_queueLenders_73 : decode cX0_queueLenders 73 = .ok (.if_icmp .ge 9, 3) := by decide +kernel
theorem dX0_queueLenders_76 : decode cX0_queueLenders 76 = .ok (.iinc 6 (-1), 3) := by decide +kernel
theorem dX0_queueLenders_79 : decode cX0_queueLenders 79 = .ok (.goto (-25), 3) := by decide +kernel
theorem dX0_queueLenders_82 : decode cX0_queueLenders 82 = .ok (.aload_n 0, 1) := by decide +kernel
theorem dX0_queueLenders_83 : decode cX0_queueLenders 83 = .ok (.getfield 33, 3) := by decide +kernel
theorem dX0_queueLenders_86 : decode cX0_queueLenders 86 = .ok (.iload 6, 2) := by decide +kernel
theorem dX0_queueLenders_88 : decode cX0_queueLenders 88 = .ok (.invokevirtual 104, 3) := by decide +kernel
theorem dX0_queueLenders_91 : decode cX0_queueLenders 91 = .ok (.aload_n 0, 1) := by decide +kernel
theorem dX0_queueLenders_92 : decode cX0_queueLenders 92 = .ok (.getfield 33, 3) := by decide +kernel
theorem dX0_queueLenders_95 : decode cX0_queueLenders 95 = .ok (.iload 6, 2) := by decide +kernel
theorem dX0_queueLenders_97 : decode cX0_queueLenders 97 = .ok (.iconst 0, 1) := by decide +kernel
theorem dX0_queueLenders_98 : decode cX0_queueLenders 98 = .ok (.iload_n 3, 1) := by decide +kernel
theorem dX0_queueLenders_99 : decode cX0_queueLenders 99 = .ok (.invokevirtual 36, 3) := by decide +kernel
theorem dX0_queueLenders_102 : decode cX0_queueLenders 102 = .ok (.aload_n 0, 1) := by decide +kernel
theorem dX0_queueLenders_103 : decode cX0_queueLenders 103 = .ok (.getfield 33, 3) := by decide +kernel
theorem dX0_queueLenders_106 : decode cX0_queueLenders 106 = .ok (.iload 6, 2) := by decide +kernel
theorem dX0_queueLenders_108 : decode cX0_queueLenders 108 = .ok (.iconst 1, 1) := by decide +kernel
theorem dX0_queueLenders_109 : decode cX0_queueLenders 109 = .ok (.iload 4, 2) := by decide +kernel
theorem dX0_queueLenders_111 : decode cX0_queueLenders 111 = .ok (.invokevirtual 36, 3) := by decide +kernel
theorem dX0_queueLenders_114 : decode cX0_queueLenders 114 = .ok (.aload_n 0, 1) := by decide +kernel
theorem dX0_queueLenders_115 : decode cX0_queueLenders 115 = .ok (.getfield 33, 3) := by decide +kernel
theorem dX0_queueLenders_118 : decode cX0_queueLenders 118 = .ok (.iload 6, 2) := by decide +kernel
theorem dX0_queueLenders_120 : decode cX0_queueLenders 120 = .ok (.iconst 2, 1) := by decide +kernel
theorem dX0_queueLenders_121 : decode cX0_queueLenders 121 = .ok (.iload 5, 2) := by decide +kernel
theorem dX0_queueLenders_123 : decode cX0_queueLenders 123 = .ok (.invokevirtual 36, 3) := by decide +kernel
theorem dX0_queueLenders_126 : decode cX0_queueLenders 126 = .ok (.iinc 2 1, 3) := by decide +kernel
theorem dX0_queueLenders_129 : decode cX0_queueLenders 129 = .ok (.iinc 3 1, 3) := by decide +kernel
theorem dX0_queueLenders_132 : decode cX0_queueLenders 132 = .ok (.goto (-128), 3) := by decide +kernel
theorem dX0_queueLenders_135 : decode cX0_queueLenders 135 = .ok (.iload_n 2, 1) := by decide +kernel
theorem dX0_queueLenders_136 : decode cX0_queueLenders 136 = .ok (.ireturn, 1) := by decide +kernel
theorem dX0_weightOfLender_0 : decode cX0_weightOfLender 0 = .ok (.aload_n 0, 1) := by decide +kernel
theorem dX0_weightOfLender_1 : decode cX0_weightOfLender 1 = .ok (.getfield 30, 3) := by decide +kernel
theorem dX0_weightOfLender_4 : decode cX0_weightOfLender 4 = .ok (.iconst 0, 1) := by decide +kernel
theorem dX0_weightOfLender_5 : decode cX0_weightOfLender 5 = .ok (.iconst 0, 1) := by decide +kernel
theorem dX0_weightOfLender_6 : decode cX0_weightOfLender 6 = .ok (.invokevirtual 51, 3) := by decide +kernel
theorem dX0_weightOfLender_9 : decode cX0_weightOfLender 9 = .ok (.lookupswitch 39 #[(0, 27), (1, 37)], 27) := by decide +kernel
theorem dX0_weightOfLender_36 : decode cX0_weightOfLender 36 = .ok (.aload_n 0, 1) := by decide +kernel
theorem dX0_weightOfLender_37 : decode cX0_weightOfLender 37 = .ok (.getfield 14, 3) := by decide +kernel
theorem dX0_weightOfLender_40 : decode cX0_weightOfLender 40 = .ok (.iload_n 1, 1) := by decide +kernel
theorem dX0_weightOfLender_41 : decode cX0_weightOfLender 41 = .ok (.iconst 0, 1) := by decide +kernel
theorem dX0_weightOfLender_42 : decode cX0_weightOfLender 42 = .ok (.invokevirtual 51, 3) := by decide +kernel
theorem dX0_weightOfLender_45 : decode cX0_weightOfLender 45 = .ok (.ireturn, 1) := by decide +kernel
theorem dX0_weightOfLender_46 : decode cX0_weightOfLender 46 = .ok (.iload_n 2, 1) := by decide +kernel
theorem dX0_weightOfLender_47 : decode cX0_weightOfLender 47 = .ok (.ireturn, 1) := by decide +kernel
theorem dX0_weightOfLender_48 : decode cX0_weightOfLender 48 = .ok (.aload_n 0, 1) := by decide +kernel
theorem dX0_weightOfLender_49 : decode cX0_weightOfLender 49 = .ok (.getfield 14, 3) := by decide +kernel
theorem dX0_weightOfLender_52 : decode cX0_weightOfLender 52 = .ok (.iload_n 1, 1) := by decide +kernel
theorem dX0_weightOfLender_53 : decode cX0_weightOfLender 53 = .ok (.iconst 5, 1) := by decide +kernel
theorem dX0_weightOfLender_54 : decode cX0_weightOfLender 54 = .ok (.invokevirtual 51, 3) := by decide +kernel
theorem dX0_weightOfLender_57 : decode cX0_weightOfLender 57 = .ok (.ineg, 1) := by decide +kernel
theorem dX0_weightOfLender_58 : decode cX0_weightOfLender 58 = .ok (.ireturn, 1) := by decide +kernel
theorem dX0_lendableDays_0 : decode cX0_lendableDays 0 = .ok (.aload_n 0, 1) := by decide +kernel
theorem dX0_lendableDays_1 : decode cX0_lendableDays 1 = .ok (.getfield 14, 3) := by decide +kernel
theorem dX0_lendableDays_4 : decode cX0_lendableDays 4 = .ok (.iload_n 1, 1) := by decide +kernel
theorem dX0_lendableDays_5 : decode cX0_lendableDays 5 = .ok (.iconst 1, 1) := by decide +kernel
theorem dX0_lendableDays_6 : decode cX0_lendableDays 6 = .ok (.invokevirtual 51, 3) := by decide +kernel
theorem dX0_lendableDays_9 : decode cX0_lendableDays 9 = .ok (.aload_n 0, 1) := by decide +kernel
theorem dX0_lendableDays_10 : decode cX0_lendableDays 10 = .ok (.getfield 30, 3) := by decide +kernel
theorem dX0_lendableDays_13 : decode cX0_lendableDays 13 = .ok (.iconst 0, 1) := by decide +kernel
theorem dX0_lendableDays_14 : decode cX0_lendableDays 14 = .ok (.iconst 1, 1) := by decide +kernel
theorem dX0_lendableDays_15 : decode cX0_lendableDays 15 = .ok (.invokevirtual 51, 3) := by decide +kernel
theorem dX0_lendableDays_18 : decode cX0_lendableDays 18 = .ok (.imul, 1) := by decide +kernel
theorem dX0_lendableDays_19 : decode cX0_lendableDays 19 = .ok (.bipush 100, 2) := by decide +kernel
theorem dX0_lendableDays_21 : decode cX0_lendableDays 21 = .ok (.idiv, 1) := by decide +kernel
theorem dX0_lendableDays_22 : decode cX0_lendableDays 22 = .ok (.istore_n 3, 1) := by decide +kernel
theorem dX0_lendableDays_23 : decode cX0_lendableDays 23 = .ok (.iconst 0, 1) := by decide +kernel
theorem dX0_lendableDays_24 : decode cX0_lendableDays 24 = .ok (.aload_n 0, 1) := by decide +kernel
theorem dX0_lendableDays_25 : decode cX0_lendableDays 25 = .ok (.getfield 14, 3) := by decide +kernel
theorem dX0_lendableDays_28 : decode cX0_lendableDays 28 = .ok (.iload_n 1, 1) := by decide +kernel
theorem dX0_lendableDays_29 : decode cX0_lendableDays 29 = .ok (.iconst 2, 1) := by decide +kernel
theorem dX0_lendableDays_30 : decode cX0_lendableDays 30 = .ok (.invokevirtual 51, 3) := by decide +kernel
theorem dX0_lendableDays_33 : decode cX0_lendableDays 33 = .ok (.iload_n 2, 1) := by decide +kernel
theorem dX0_lendableDays_34 : decode cX0_lendableDays 34 = .ok (.isub, 1) := by decide +kernel
theorem dX0_lendableDays_35 : decode cX0_lendableDays 35 = .ok (.iload_n 3, 1) := by decide +kernel
theorem dX0_lendableDays_36 : decode cX0_lendableDays 36 = .ok (.isub, 1) := by decide +kernel
theorem dX0_lendableDays_37 : decode cX0_lendableDays 37 = .ok (.invokestatic 68, 3) := by decide +kernel
theorem dX0_lendableDays_40 : decode cX0_lendableDays 40 = .ok (.ireturn, 1) := by decide +kernel
theorem dX0_placeOfLoan_0 : decode cX0_placeOfLoan 0 = .ok (.iconst 0, 1) := by decide +kernel
theorem dX0_placeOfLoan_1 : decode cX0_placeOfLoan 1 = .ok (.istore_n 3, 1) := by decide +kernel
theorem dX0_placeOfLoan_2 : decode cX0_placeOfLoan 2 = .ok (.iload_n 3, 1) := by decide +kernel
theorem dX0_placeOfLoan_3 : decode cX0_placeOfLoan 3 = .ok (.aload_n 0, 1) := by decide +kernel
theorem dX0_placeOfLoan_4 : decode cX0_placeOfLoan 4 = .ok (.getfield 48, 3) := by decide +kernel
theorem dX0_placeOfLoan_7 : decode cX0_placeOfLoan 7 = .ok (.if_icmp .ge 37, 3) := by decide +kernel
theorem dX0_placeOfLoan_10 : decode cX0_placeOfLoan 10 = .ok (.aload_n 0, 1) := by decide +kernel
theorem dX0_placeOfLoan_11 : decode cX0_placeOfLoan 11 = .ok (.getfield 23, 3) := by decide +kernel
theorem dX0_placeOfLoan_14 : decode cX0_placeOfLoan 14 = .ok (.iload_n 3, 1) := by decide +kernel
theorem dX0_placeOfLoan_15 : decode cX0_placeOfLoan 15 = .ok (.iconst 0, 1) := by decide +kernel
theorem dX0_placeOfLoan_16 : decode cX0_placeOfLoan 16 = .ok (.invokevirtual 51, 3) := by decide +kernel
theorem dX0_placeOfLoan_19 : decode cX0_placeOfLoan 19 = .ok (.iload_n 1, 1) := by decide +kernel
theorem dX0_placeOfLoan_20 : decode cX0_placeOfLoan 20 = .ok (.if_icmp .ne 18, 3) := by decide +kernel
theorem dX0_placeOfLoan_23 : decode cX0_placeOfLoan 23 = .ok (.aload_n 0, 1) := by decide +kernel
theorem dX0_placeOfLoan_24 : decode cX0_placeOfLoan 24 = .ok (.getfield 23, 3) := by decide +kernel
theorem dX0_placeOfLoan_27 : decode cX0_placeOfLoan 27 = .ok (.iload_n 3, 1) := by decide +kernel
theorem dX0_placeOfLoan_28 : decode cX0_placeOfLoan 28 = .ok (.iconst 1, 1) := by decide +kernel
theorem dX0_placeOfLoan_29 : decode cX0_placeOfLoan 29 = .ok (.invokevirtual 51, 3) := by decide +kernel
theorem dX0_placeOfLoan_32 : decode cX0_placeOfLoan 32 = .ok (.iload_n 2, 1) := by decide +kernel
theorem dX0_placeOfLoan_33 : decode cX0_placeOfLoan 33 = .ok (.if_icmp .ne 5, 3) := by decide +kernel
theorem dX0_placeOfLoan_36 : decode cX0_placeOfLoan 36 = .ok (.iload_n 3, 1) := by decide +kernel
theorem dX0_placeOfLoan_37 : decode cX0_placeOfLoan 37 = .ok (.ireturn, 1) := by decide +kernel
theorem dX0_placeOfLoan_38 : decode cX0_placeOfLoan 38 = .ok (.iinc 3 1, 3) := by decide +kernel
theorem dX0_placeOfLoan_41 : decode cX0_placeOfLoan 41 = .ok (.goto (-39), 3) := by decide +kernel
theorem dX0_placeOfLoan_44 : decode cX0_placeOfLoan 44 = .ok (.iconst (-1), 1) := by decide +kernel
theorem dX0_placeOfLoan_45 : decode cX0_placeOfLoan 45 = .ok (.ireturn, 1) := by decide +kernel
theorem dX0_daysOwed_0 : decode cX0_daysOwed 0 = .ok (.aload_n 0, 1) := by decide +kernel
theorem dX0_daysOwed_1 : decode cX0_daysOwed 1 = .ok (.getfield 23, 3) := by decide +kernel
theorem dX0_daysOwed_4 : decode cX0_daysOwed 4 = .ok (.aload_n 0, 1) := by decide +kernel
theorem dX0_daysOwed_5 : decode cX0_daysOwed 5 = .ok (.iload_n 2, 1) := by decide +kernel
theorem dX0_daysOwed_6 : decode cX0_daysOwed 6 = .ok (.iload_n 1, 1) := by decide +kernel
theorem dX0_daysOwed_7 : decode cX0_daysOwed 7 = .ok (.invokevirtual 108, 3) := by decide +kernel
theorem dX0_daysOwed_10 : decode cX0_daysOwed 10 = .ok (.iconst 2, 1) := by decide +kernel
theorem dX0_daysOwed_11 : decode cX0_daysOwed 11 = .ok (.invokevirtual 51, 3) := by decide +kernel
theorem dX0_daysOwed_14 : decode cX0_daysOwed 14 = .ok (.ireturn, 1) := by decide +kernel
theorem dX0_lendDays_0 : decode cX0_lendDays 0 = .ok (.aload_n 0, 1) := by decide +kernel
theorem dX0_lendDays_1 : decode cX0_lendDays 1 = .ok (.iload_n 1, 1) := by decide +kernel
theorem dX0_lendDays_2 : decode cX0_lendDays 2 = .ok (.iload_n 2, 1) := by decide +kernel
theorem dX0_lendDays_3 : decode cX0_lendDays 3 = .ok (.invokevirtual 108, 3) := by decide +kernel
theorem dX0_lendDays_6 : decode cX0_lendDays 6 = .ok (.istore 4, 2) := by decide +kernel
theorem dX0_lendDays_8 : decode cX0_lendDays 8 = .ok (.iload 4, 2) := by decide +kernel
theorem dX0_lendDays_10 : decode cX0_lendDays 10 = .ok (.iconst (-1), 1) := by decide +kernel
theorem dX0_lendDays_11 : decode cX0_lendDays 11 = .ok (.if_icmp .ne 52, 3) := by decide +kernel
theorem dX0_lendDays_14 : decode cX0_lendDays 14 = .ok (.aload_n 0, 1) := by decide +kernel
theorem dX0_lendDays_15 : decode cX0_lendDays 15 = .ok (.getfield 48, 3) := by decide +kernel
theorem dX0_lendDays_18 : decode cX0_lendDays 18 = .ok (.istore 4, 2) := by decide +kernel
theorem dX0_lendDays_20 : decode cX0_lendDays 20 = .ok (.aload_n 0, 1) := by decide +kernel
theorem dX0_lendDays_21 : decode cX0_lendDays 21 = .ok (.dup, 1) := by decide +kernel
theorem dX0_lendDays_22 : decode cX0_lendDays 22 = .ok (.getfield 48, 3) := by decide +kernel
theorem dX0_lendDays_25 : decode cX0_lendDays 25 = .ok (.iconst 1, 1) := by decide +kernel
theorem dX0_lendDays_26 : decode cX0_lendDays 26 = .ok (.iadd, 1) := by decide +kernel
theorem dX0_lendDays_27 : decode cX0_lendDays 27 = .ok (.putfield 48, 3) := by decide +kernel
theorem dX0_lendDays_30 : decode cX0_lendDays 30 = .ok (.aload_n 0, 1) := by decide +kernel
theorem dX0_lendDays_31 : decode cX0_lendDays 31 = .ok (.getfield 23, 3) := by decide +kernel
theorem dX0_lendDays_34 : decode cX0_lendDays 34 = .ok (.iload 4, 2) := by decide +kernel
theorem dX0_lendDays_36 : decode cX0_lendDays 36 = .ok (.iconst 0, 1) := by decide +kernel
theorem dX0_lendDays_37 : decode cX0_lendDays 37 = .ok (.iload_n 1, 1) := by decide +kernel
theorem dX0_lendDays_38 : decode cX0_lendDays 38 = .ok (.invokevirtual 36, 3) := by decide +kernel
theorem dX0_lendDays_41 : decode cX0_lendDays 41 = .ok (.aload_n 0, 1) := by decide +kernel
theorem dX0_lendDays_42 : decode cX0_lendDays 42 = .ok (.getfield 23, 3) := by decide +kernel
theorem dX0_lendDays_45 : decode cX0_lendDays 45 = .ok (.iload 4, 2) := by decide +kernel
theorem dX0_lendDays_47 : decode cX0_lendDays 47 = .ok (.iconst 1, 1) := by decide +kernel
theorem dX0_lendDays_48 : decode cX0_lendDays 48 = .ok (.iload_n 2, 1) := by decide +kernel
theorem dX0_lendDays_49 : decode cX0_lendDays 49 = .ok (.invokevirtual 36, 3) := by decide +kernel
theorem dX0_lendDays_52 : decode cX0_lendDays 52 = .ok (.aload_n 0, 1) := by decide +kernel
theorem dX0_lendDays_53 : decode cX0_lendDays 53 = .ok (.getfield 23, 3) := by decide +kernel
theorem dX0_lendDays_56 : decode cX0_lendDays 56 = .ok (.iload 4, 2) := by decide +kernel
theorem dX0_lendDays_58 : decode cX0_lendDays 58 = .ok (.iconst 2, 1) := by decide +kernel
theorem dX0_lendDays_59 : decode cX0_lendDays 59 = .ok (.iconst 0, 1) := by decide +kernel
theorem dX0_lendDays_60 : decode cX0_lendDays 60 = .ok (.invokevirtual 36, 3) := by decide +kernel
theorem dX0_lendDays_63 : decode cX0_lendDays 63 = .ok (.aload_n 0, 1) := by decide +kernel
theorem dX0_lendDays_64 : decode cX0_lendDays 64 = .ok (.iload 4, 2) := by decide +kernel
theorem dX0_lendDays_66 : decode cX0_lendDays 66 = .ok (.iload_n 3, 1) := by decide +kernel
theorem dX0_lendDays_67 : decode cX0_lendDays 67 = .ok (.invokevirtual 111, 3) := by decide +kernel
theorem dX0_lendDays_70 : decode cX0_lendDays 70 = .ok (.aload_n 0, 1) := by decide +kernel
theorem dX0_lendDays_71 : decode cX0_lendDays 71 = .ok (.iload_n 1, 1) := by decide +kernel
theorem dX0_lendDays_72 : decode cX0_lendDays 72 = .ok (.iload_n 2, 1) := by decide +kernel
theorem dX0_lendDays_73 : decode cX0_lendDays 73 = .ok (.iload_n 3, 1) := by decide +kernel
theorem dX0_lendDays_74 : decode cX0_lendDays 74 = .ok (.invokevirtual 114, 3) := by decide +kernel
theorem dX0_lendDays_77 : decode cX0_lendDays 77 = .ok (.return_, 1) := by decide +kernel
theorem dX0_payLoan_0 : decode cX0_payLoan 0 = .ok (.aload_n 0, 1) := by decide +kernel
theorem dX0_payLoan_1 : decode cX0_payLoan 1 = .ok (.getfield 23, 3) := by decide +kernel
theorem dX0_payLoan_4 : decode cX0_payLoan 4 = .ok (.iload_n 1, 1) := by decide +kernel
theorem dX0_payLoan_5 : decode cX0_payLoan 5 = .ok (.iconst 0, 1) := by decide +kernel
theorem dX0_payLoan_6 : decode cX0_payLoan 6 = .ok (.invokevirtual 51, 3) := by decide +kernel
theorem dX0_payLoan_9 : decode cX0_payLoan 9 = .ok (.istore_n 3, 1) := by decide +kernel
theorem dX0_payLoan_10 : decode cX0_payLoan 10 = .ok (.aload_n 0, 1) := by decide +kernel
theorem dX0_payLoan_11 : decode cX0_payLoan 11 = .ok (.getfield 23, 3) := by decide +kernel
theorem dX0_payLoan_14 : decode cX0_payLoan 14 = .ok (.iload_n 1, 1) := by decide +kernel
theorem dX0_payLoan_15 : decode cX0_payLoan 15 = .ok (.iconst 1, 1) := by decide +kernel
theorem dX0_payLoan_16 : decode cX0_payLoan 16 = .ok (.invokevirtual 51, 3) := by decide +kernel
theorem dX0_payLoan_19 : decode cX0_payLoan 19 = .ok (.istore 4, 2) := by decide +kernel
theorem dX0_payLoan_21 : decode cX0_payLoan 21 = .ok (.aload_n 0, 1) := by decide +kernel
theorem dX0_payLoan_22 : decode cX0_payLoan 22 = .ok (.iload_n 1, 1) := by decide +kernel
theorem dX0_payLoan_23 : decode cX0_payLoan 23 = .ok (.iload_n 2, 1) := by decide +kernel
theorem dX0_payLoan_24 : decode cX0_payLoan 24 = .ok (.ineg, 1) := by decide +kernel
theorem dX0_payLoan_25 : decode cX0_payLoan 25 = .ok (.invokevirtual 111, 3) := by decide +kernel
theorem dX0_payLoan_28 : decode cX0_payLoan 28 = .ok (.aload_n 0, 1) := by decide +kernel
theorem dX0_payLoan_29 : decode cX0_payLoan 29 = .ok (.iload 4, 2) := by decide +kernel
theorem dX0_payLoan_31 : decode cX0_payLoan 31 = .ok (.iload_n 3, 1) := by decide +kernel
theorem dX0_payLoan_32 : decode cX0_payLoan 32 = .ok (.iload_n 2, 1) := by decide +kernel
theorem dX0_payLoan_33 : decode cX0_payLoan 33 = .ok (.invokevirtual 114, 3) := by decide +kernel
theorem dX0_payLoan_36 : decode cX0_payLoan 36 = .ok (.return_, 1) := by decide +kernel
theorem dX0_changeLoan_0 : decode cX0_changeLoan 0 = .ok (.aload_n 0, 1) := by decide +kernel
theorem dX0_changeLoan_1 : decode cX0_changeLoan 1 = .ok (.getfield 23, 3) := by decide +kernel
theorem dX0_changeLoan_4 : decode cX0_changeLoan 4 = .ok (.iload_n 1, 1) := by decide +kernel
theorem dX0_changeLoan_5 : decode cX0_changeLoan 5 = .ok (.iconst 2, 1) := by decide +kernel
theorem dX0_changeLoan_6 : decode cX0_changeLoan 6 = .ok (.iload_n 2, 1) := by decide +kernel
theorem dX0_changeLoan_7 : decode cX0_changeLoan 7 = .ok (.invokevirtual 65, 3) := by decide +kernel
theorem dX0_changeLoan_10 : decode cX0_changeLoan 10 = .ok (.aload_n 0, 1) := by decide +kernel
theorem dX0_changeLoan_11 : decode cX0_changeLoan 11 = .ok (.getfield 14, 3) := by decide +kernel
theorem dX0_changeLoan_14 : decode cX0_changeLoan 14 = .ok (.aload_n 0, 1) := by decide +kernel
theorem dX0_changeLoan_15 : decode cX0_changeLoan 15 = .ok (.getfield 23, 3) := by decide +kernel
theorem dX0_changeLoan_18 : decode cX0_changeLoan 18 = .ok (.iload_n 1, 1) := by decide +kernel
theorem dX0_changeLoan_19 : decode cX0_changeLoan 19 = .ok (.iconst 0, 1) := by decide +kernel
theorem dX0_changeLoan_20 : decode cX0_changeLoan 20 = .ok (.invokevirtual 51, 3) := by decide +kernel
theorem dX0_changeLoan_23 : decode cX0_changeLoan 23 = .ok (.iconst 5, 1) := by decide +kernel
theorem dX0_changeLoan_24 : decode cX0_changeLoan 24 = .ok (.iload_n 2, 1) := by decide +kernel
theorem dX0_changeLoan_25 : decode cX0_changeLoan 25 = .ok (.invokevirtual 65, 3) := by decide +kernel
theorem dX0_changeLoan_28 : decode cX0_changeLoan 28 = .ok (.aload_n 0, 1) := by decide +kernel
theorem dX0_changeLoan_29 : decode cX0_changeLoan 29 = .ok (.getfield 14, 3) := by decide +kernel
theorem dX0_changeLoan_32 : decode cX0_changeLoan 32 = .ok (.aload_n 0, 1) := by decide +kernel
theorem dX0_changeLoan_33 : decode cX0_changeLoan 33 = .ok (.getfield 23, 3) := by decide +kernel
theorem dX0_changeLoan_36 : decode cX0_changeLoan 36 = .ok (.iload_n 1, 1) := by decide +kernel
theorem dX0_changeLoan_37 : decode cX0_changeLoan 37 = .ok (.iconst 1, 1) := by decide +kernel
theorem dX0_changeLoan_38 : decode cX0_changeLoan 38 = .ok (.invokevirtual 51, 3) := by decide +kernel
theorem dX0_changeLoan_41 : decode cX0_changeLoan 41 = .ok (.iconst 4, 1) := by decide +kernel
theorem dX0_changeLoan_42 : decode cX0_changeLoan 42 = .ok (.iload_n 2, 1) := by decide +kernel
theorem dX0_changeLoan_43 : decode cX0_changeLoan 43 = .ok (.invokevirtual 65, 3) := by decide +kernel
theorem dX0_changeLoan_46 : decode cX0_changeLoan 46 = .ok (.aload_n 0, 1) := by decide +kernel
theorem dX0_changeLoan_47 : decode cX0_changeLoan 47 = .ok (.getfield 23, 3) := by decide +kernel
theorem dX0_changeLoan_50 : decode cX0_changeLoan 50 = .ok (.iload_n 1, 1) := by decide +kernel
theorem dX0_changeLoan_51 : decode cX0_changeLoan 51 = .ok (.iconst 2, 1) := by decide +kernel
theorem dX0_changeLoan_52 : decode cX0_changeLoan 52 = .ok (.invokevirtual 51, 3) := by decide +kernel
theorem dX0_changeLoan_55 : decode cX0_changeLoan 55 = .ok (.ifCond .ne 21, 3) := by decide +kernel
theorem dX0_changeLoan_58 : decode cX0_changeLoan 58 = .ok (.aload_n 0, 1) := by decide +kernel
theorem dX0_changeLoan_59 : decode cX0_changeLoan 59 = .ok (.getfield 23, 3) := by decide +kernel
theorem dX0_changeLoan_62 : decode cX0_changeLoan 62 = .ok (.iload_n 1, 1) := by decide +kernel
theorem dX0_changeLoan_63 : decode cX0_changeLoan 63 = .ok (.invokevirtual 117, 3) := by decide +kernel
theorem dX0_changeLoan_66 : decode cX0_changeLoan 66 = .ok (.aload_n 0, 1) := by decide +kernel
theorem dX0_changeLoan_67 : decode cX0_changeLoan 67 = .ok (.dup, 1) := by decide +kernel
theorem dX0_changeLoan_68 : decode cX0_changeLoan 68 = .ok (.getfield 48, 3) := by decide +kernel
theorem dX0_changeLoan_71 : decode cX0_changeLoan 71 = .ok (.iconst 1, 1) := by decide +kernel
theorem dX0_changeLoan_72 : decode cX0_changeLoan 72 = .ok (.isub, 1) := by decide +kernel
theorem dX0_changeLoan_73 : decode cX0_changeLoan 73 = .ok (.putfield 48, 3) := by decide +kernel
theorem dX0_changeLoan_76 : decode cX0_changeLoan 76 = .ok (.return_, 1) := by decide +kernel
theorem dX0_moveDays_0 : decode cX0_moveDays 0 = .ok (.aload_n 0, 1) := by decide +kernel
theorem dX0_moveDays_1 : decode cX0_moveDays 1 = .ok (.getfield 14, 3) := by decide +kernel
theorem dX0_moveDays_4 : decode cX0_moveDays 4 = .ok (.iload_n 1, 1) := by decide +kernel
theorem dX0_moveDays_5 : decode cX0_moveDays 5 = .ok (.iconst 2, 1) := by decide +kernel
theorem dX0_moveDays_6 : decode cX0_moveDays 6 = .ok (.iload_n 3, 1) := by decide +kernel
theorem dX0_moveDays_7 : decode cX0_moveDays 7 = .ok (.ineg, 1) := by decide +kernel
theorem dX0_moveDays_8 : decode cX0_moveDays 8 = .ok (.invokevirtual 65, 3) := by decide +kernel
theorem dX0_moveDays_11 : decode cX0_moveDays 11 = .ok (.aload_n 0, 1) := by decide +kernel
theorem dX0_moveDays_12 : decode cX0_moveDays 12 = .ok (.getfield 14, 3) := by decide +kernel
theorem dX0_moveDays_15 : decode cX0_moveDays 15 = .ok (.iload_n 2, 1) := by decide +kernel
theorem dX0_moveDays_16 : decode cX0_moveDays 16 = .ok (.iconst 2, 1) := by decide +kernel
theorem dX0_moveDays_17 : decode cX0_moveDays 17 = .ok (.iload_n 3, 1) := by decide +kernel
theorem dX0_moveDays_18 : decode cX0_moveDays 18 = .ok (.invokevirtual 65, 3) := by decide +kernel
theorem dX0_moveDays_21 : decode cX0_moveDays 21 = .ok (.return_, 1) := by decide +kernel
theorem dX0_repay_0 : decode cX0_repay 0 = .ok (.iload_n 2, 1) := by decide +kernel
theorem dX0_repay_1 : decode cX0_repay 1 = .ok (.istore_n 3, 1) := by decide +kernel
theorem dX0_repay_2 : decode cX0_repay 2 = .ok (.iconst 0, 1) := by decide +kernel
theorem dX0_repay_3 : decode cX0_repay 3 = .ok (.istore 4, 2) := by decide +kernel
theorem dX0_repay_5 : decode cX0_repay 5 = .ok (.aload_n 0, 1) := by decide +kernel
theorem dX0_repay_6 : decode cX0_repay 6 = .ok (.getfield 48, 3) := by decide +kernel
theorem dX0_repay_9 : decode cX0_repay 9 = .ok (.istore 5, 2) := by decide +kernel
theorem dX0_repay_11 : decode cX0_repay 11 = .ok (.iload 5, 2) := by decide +kernel
theorem dX0_repay_13 : decode cX0_repay 13 = .ok (.ifCond .le 73, 3) := by decide +kernel
theorem dX0_repay_16 : decode cX0_repay 16 = .ok (.iload_n 3, 1) := by decide +kernel
theorem dX0_repay_17 : decode cX0_repay 17 = .ok (.ifCond .le 69, 3) := by decide +kernel
theorem dX0_repay_20 : decode cX0_repay 20 = .ok (.aload_n 0, 1) := by decide +kernel
theorem dX0_repay_21 : decode cX0_repay 21 = .ok (.getfield 23, 3) := by decide +kernel
theorem dX0_repay_24 : decode cX0_repay 24 = .ok (.iload 4, 2) := by decide +kernel
theorem dX0_repay_26 : decode cX0_repay 26 = .ok (.iconst 2, 1) := by decide +kernel
theorem dX0_repay_27 : decode cX0_repay 27 = .ok (.invokevirtual 51, 3) := by decide +kernel
theorem dX0_repay_30 : decode cX0_repay 30 = .ok (.istore 6, 2) := by decide +kernel
theorem dX0_repay_32 : decode cX0_repay 32 = .ok (.iconst 0, 1) := by decide +kernel
theorem dX0_repay_33 : decode cX0_repay 33 = .ok (.istore 7, 2) := by decide +kernel
theorem dX0_repay_35 : decode cX0_repay 35 = .ok (.aload_n 0, 1) := by decide +kernel
theorem dX0_repay_36 : decode cX0_repay 36 = .ok (.getfield 23, 3) := by decide +kernel
theorem dX0_repay_39 : decode cX0_repay 39 = .ok (.iload 4, 2) := by decide +kernel
theorem dX0_repay_41 : decode cX0_repay 41 = .ok (.iconst 1, 1) := by decide +kernel
theorem dX0_repay_42 : decode cX0_repay 42 = .ok (.invokevirtual 51, 3) := by decide +kernel
theorem dX0_repay_45 : decode cX0_repay 45 = .ok (.iload_n 1, 1) := by decide +kernel
theorem dX0_repay_46 : decode cX0_repay 46 = .ok (.if_icmp .ne 24, 3) := by decide +kernel
theorem dX0_repay_49 : decode cX0_repay 49 = .ok (.iload_n 3, 1) := by decide +kernel
theorem dX0_repay_50 : decode cX0_repay 50 = .ok (.iload 6, 2) := by decide +kernel
theorem dX0_repay_52 : decode cX0_repay 52 = .ok (.invokestatic 79, 3) := by decide +kernel
theorem dX0_repay_55 : decode cX0_repay 55 = .ok (.istore 7, 2) := by decide +kernel
theorem dX0_repay_57 : decode cX0_repay 57 = .ok (.aload_n 0, 1) := by decide +kernel
theorem dX0_repay_58 : decode cX0_repay 58 = .ok (.iload 4, 2) := by decide +kernel
theorem dX0_repay_60 : decode cX0_repay 60 = .ok (.iload 7, 2) := by decide +kernel
theorem dX0_repay_62 : decode cX0_repay 62 = .ok (.invokevirtual 91, 3) := by decide +kernel
theorem dX0_repay_65 : decode cX0_repay 65 = .ok (.iload_n 3, 1) := by decide +kernel
theorem dX0_repay_66 : decode cX0_repay 66 = .ok (.iload 7, 2) := by decide +kernel
theorem dX0_repay_68 : decode cX0_repay 68 = .ok (.isub, 1) := by decide +kernel
theorem dX0_repay_69 : decode cX0_repay 69 = .ok (.istore_n 3, 1) := by decide +kernel
theorem dX0_repay_70 : decode cX0_repay 70 = .ok (.iload 7, 2) := by decide +kernel
theorem dX0_repay_72 : decode cX0_repay 72 = .ok (.iload 6, 2) := by decide +kernel
theorem dX0_repay_74 : decode cX0_repay 74 = .ok (.if_icmp .ge 6, 3) := by decide +kernel
theorem dX0_repay_77 : decode cX0_repay 77 = .ok (.iinc 4 1, 3) := by decide +kernel
theorem dX0_repay_80 : decode cX0_repay 80 = .ok (.iinc 5 (-1), 3) := by decide +kernel
theorem dX0_repay_83 : decode cX0_repay 83 = .ok (.goto (-72), 3) := by decide +kernel
theorem dX0_repay_86 : decode cX0_repay 86 = .ok (.return_, 1) := by decide +kernel
theorem dX0_closeProject_0 : decode cX0_closeProject 0 = .ok (.aload_n 0, 1) := by decide +kernel
theorem dX0_closeProject_1 : decode cX0_closeProject 1 = .ok (.iload_n 1, 1) := by decide +kernel
theorem dX0_closeProject_2 : decode cX0_closeProject 2 = .ok (.aload_n 0, 1) := by decide +kernel
theorem dX0_closeProject_3 : decode cX0_closeProject 3 = .ok (.getfield 14, 3) := by decide +kernel
theorem dX0_closeProject_6 : decode cX0_closeProject 6 = .ok (.iload_n 1, 1) := by decide +kernel
theorem dX0_closeProject_7 : decode cX0_closeProject 7 = .ok (.iconst 2, 1) := by decide +kernel
theorem dX0_closeProject_8 : decode cX0_closeProject 8 = .ok (.invokevirtual 51, 3) := by decide +kernel
theorem dX0_closeProject_11 : decode cX0_closeProject 11 = .ok (.invokevirtual 76, 3) := by decide +kernel
theorem dX0_closeProject_14 : decode cX0_closeProject 14 = .ok (.iconst 0, 1) := by decide +kernel
theorem dX0_closeProject_15 : decode cX0_closeProject 15 = .ok (.istore_n 2, 1) := by decide +kernel
theorem dX0_closeProject_16 : decode cX0_closeProject 16 = .ok (.iconst 0, 1) := by decide +kernel
theorem dX0_closeProject_17 : decode cX0_closeProject 17 = .ok (.istore_n 3, 1) := by decide +kernel
theorem dX0_closeProject_18 : decode cX0_closeProject 18 = .ok (.aload_n 0, 1) := by decide +kernel
theorem dX0_closeProject_19 : decode cX0_closeProject 19 = .ok (.getfield 48, 3) := by decide +kernel
theorem dX0_closeProject_22 : decode cX0_closeProject 22 = .ok (.istore 4, 2) := by decide +kernel
theorem dX0_closeProject_24 : decode cX0_closeProject 24 = .ok (.iload 4, 2) := by decide +kernel
theorem dX0_closeProject_26 : decode cX0_closeProject 26 = .ok (.ifCond .le 49, 3) := by decide +kernel
theorem dX0_closeProject_29 : decode cX0_closeProject 29 = .ok (.aload_n 0, 1) := by decide +kernel
theorem dX0_closeProject_30 : decode cX0_closeProject 30 = .ok (.getfield 23, 3) := by decide +kernel
theorem dX0_closeProject_33 : decode cX0_closeProject 33 = .ok (.iload_n 3, 1) := by decide +kernel
theorem dX0_closeProject_34 : decode cX0_closeProject 34 = .ok (.iconst 0, 1) := by decide +kernel
theorem dX0_closeProject_35 : decode cX0_closeProject 35 = .ok (.invokevirtual 51, 3) := by decide +kernel
theorem dX0_closeProject_38 : decode cX0_closeProject 38 = .ok (.iload_n 1, 1) := by decide +kernel
theorem dX0_closeProject_39 : decode cX0_closeProject 39 = .ok (.if_icmp .eq 16, 3) := by decide +kernel
theorem dX0_closeProject_42 : decode cX0_closeProject 42 = .ok (.aload_n 0, 1) := by decide +kernel
theorem dX0_closeProject_43 : decode cX0_closeProject 43 = .ok (.getfield 23, 3) := by decide +kernel
theorem dX0_closeProject_46 : decode cX0_closeProject 46 = .ok (.iload_n 3, 1) := by decide +kernel
theorem dX0_closeProject_47 : decode cX0_closeProject 47 = .ok (.iconst 1, 1) := by decide +kernel
theorem dX0_closeProject_48 : decode cX0_closeProject 48 = .ok (.invokevirtual 51, 3) := by decide +kernel
theorem dX0_closeProject_51 : decode cX0_closeProject 51 = .ok (.iload_n 1, 1) := by decide +kernel
theorem dX0_closeProject_52 : decode cX0_closeProject 52 = .ok (.if_icmp .ne 14, 3) := by decide +kernel
theorem dX0_closeProject_55 : decode cX0_closeProject 55 = .ok (.iload_n 2, 1) := by decide +kernel
theorem dX0_closeProject_56 : decode cX0_closeProject 56 = .ok (.aload_n 0, 1) := by decide +kernel
theorem dX0_closeProject_57 : decode cX0_closeProject 57 = .ok (.iload_n 3, 1) := by decide +kernel
theorem dX0_closeProject_58 : decode cX0_closeProject 58 = .ok (.invokevirtual 120, 3) := by decide +kernel
theorem dX0_closeProject_61 : decode cX0_closeProject 61 = .ok (.iadd, 1) := by decide +kernel
theorem dX0_closeProject_62 : decode cX0_closeProject 62 = .ok (.istore_n 2, 1) := by decide +kernel
theorem dX0_closeProject_63 : decode cX0_closeProject 63 = .ok (.goto 6, 3) := by decide +kernel
theorem dX0_closeProject_66 : decode cX0_closeProject 66 = .ok (.iinc 3 1, 3) := by decide +kernel
theorem dX0_closeProject_69 : decode cX0_closeProject 69 = .ok (.iinc 4 (-1), 3) := by decide +kernel
theorem dX0_closeProject_72 : decode cX0_closeProject 72 = .ok (.goto (-48), 3) := by decide +kernel
theorem dX0_closeProject_75 : decode cX0_closeProject 75 = .ok (.aload_n 0, 1) := by decide +kernel
theorem dX0_closeProject_76 : decode cX0_closeProject 76 = .ok (.getfield 14, 3) := by decide +kernel
theorem dX0_closeProject_79 : decode cX0_closeProject 79 = .ok (.iload_n 1, 1) := by decide +kernel
theorem dX0_closeProject_80 : decode cX0_closeProject 80 = .ok (.bipush 9, 2) := by decide +kernel
theorem dX0_closeProject_82 : decode cX0_closeProject 82 = .ok (.iconst 0, 1) := by decide +kernel
theorem dX0_closeProject_83 : decode cX0_closeProject 83 = .ok (.invokevirtual 36, 3) := by decide +kernel
theorem dX0_closeProject_86 : decode cX0_closeProject 86 = .ok (.iload_n 2, 1) := by decide +kernel
theorem dX0_closeProject_87 : decode cX0_closeProject 87 = .ok (.ireturn, 1) := by decide +kernel
theorem dX0_writeOff_0 : decode cX0_writeOff 0 = .ok (.aload_n 0, 1) := by decide +kernel
theorem dX0_writeOff_1 : decode cX0_writeOff 1 = .ok (.getfield 23, 3) := by decide +kernel
theorem dX0_writeOff_4 : decode cX0_writeOff 4 = .ok (.iload_n 1, 1) := by decide +kernel
theorem dX0_writeOff_5 : decode cX0_writeOff 5 = .ok (.iconst 2, 1) := by decide +kernel
theorem dX0_writeOff_6 : decode cX0_writeOff 6 = .ok (.invokevirtual 51, 3) := by decide +kernel
theorem dX0_writeOff_9 : decode cX0_writeOff 9 = .ok (.istore_n 2, 1) := by decide +kernel
theorem dX0_writeOff_10 : decode cX0_writeOff 10 = .ok (.aload_n 0, 1) := by decide +kernel
theorem dX0_writeOff_11 : decode cX0_writeOff 11 = .ok (.getfield 14, 3) := by decide +kernel
theorem dX0_writeOff_14 : decode cX0_writeOff 14 = .ok (.aload_n 0, 1) := by decide +kernel
theorem dX0_writeOff_15 : decode cX0_writeOff 15 = .ok (.getfield 23, 3) := by decide +kernel
theorem dX0_writeOff_18 : decode cX0_writeOff 18 = .ok (.iload_n 1, 1) := by decide +kernel
theorem dX0_writeOff_19 : decode cX0_writeOff 19 = .ok (.iconst 0, 1) := by decide +kernel
theorem dX0_writeOff_20 : decode cX0_writeOff 20 = .ok (.invokevirtual 51, 3) := by decide +kernel
theorem dX0_writeOff_23 : decode cX0_writeOff 23 = .ok (.bipush 11, 2) := by decide +kernel
theorem dX0_writeOff_25 : decode cX0_writeOff 25 = .ok (.iload_n 2, 1) := by decide +kernel
theorem dX0_writeOff_26 : decode cX0_writeOff 26 = .ok (.invokevirtual 65, 3) := by decide +kernel
theorem dX0_writeOff_29 : decode cX0_writeOff 29 = .ok (.aload_n 0, 1) := by decide +kernel
theorem dX0_writeOff_30 : decode cX0_writeOff 30 = .ok (.getfield 14, 3) := by decide +kernel
theorem dX0_writeOff_33 : decode cX0_writeOff 33 = .ok (.aload_n 0, 1) := by decide +kernel
theorem dX0_writeOff_34 : decode cX0_writeOff 34 = .ok (.getfield 23, 3) := by decide +kernel
theorem dX0_writeOff_37 : decode cX0_writeOff 37 = .ok (.iload_n 1, 1) := by decide +kernel
theorem dX0_writeOff_38 : decode cX0_writeOff 38 = .ok (.iconst 1, 1) := by decide +kernel
theorem dX0_writeOff_39 : decode cX0_writeOff 39 = .ok (.invokevirtual 51, 3) := by decide +kernel
theorem dX0_writeOff_42 : decode cX0_writeOff 42 = .ok (.bipush 10, 2) := by decide +kernel
theorem dX0_writeOff_44 : decode cX0_writeOff 44 = .ok (.iload_n 2, 1) := by decide +kernel
theorem dX0_writeOff_45 : decode cX0_writeOff 45 = .ok (.invokevirtual 65, 3) := by decide +kernel
theorem dX0_writeOff_48 : decode cX0_writeOff 48 = .ok (.aload_n 0, 1) := by decide +kernel
theorem dX0_writeOff_49 : decode cX0_writeOff 49 = .ok (.iload_n 1, 1) := by decide +kernel
theorem dX0_writeOff_50 : decode cX0_writeOff 50 = .ok (.iload_n 2, 1) := by decide +kernel
theorem dX0_writeOff_51 : decode cX0_writeOff 51 = .ok (.ineg, 1) := by decide +kernel
theorem dX0_writeOff_52 : decode cX0_writeOff 52 = .ok (.invokevirtual 111, 3) := by decide +kernel
theorem dX0_writeOff_55 : decode cX0_writeOff 55 = .ok (.iload_n 2, 1) := by decide +kernel
theorem dX0_writeOff_56 : decode cX0_writeOff 56 = .ok (.ireturn, 1) := by decide +kernel
theorem dX0_bearableDelay_0 : decode cX0_bearableDelay 0 = .ok (.aload_n 0, 1) := by decide +kernel
theorem dX0_bearableDelay_1 : decode cX0_bearableDelay 1 = .ok (.iload_n 1, 1) := by decide +kernel
theorem dX0_bearableDelay_2 : decode cX0_bearableDelay 2 = .ok (.invokevirtual 55, 3) := by decide +kernel
theorem dX0_bearableDelay_5 : decode cX0_bearableDelay 5 = .ok (.ifCond .ne 5, 3) := by decide +kernel
theorem dX0_bearableDelay_8 : decode cX0_bearableDelay 8 = .ok (.iconst (-1), 1) := by decide +kernel
theorem dX0_bearableDelay_9 : decode cX0_bearableDelay 9 = .ok (.ireturn, 1) := by decide +kernel
theorem dX0_bearableDelay_10 : decode cX0_bearableDelay 10 = .ok (.aload_n 0, 1) := by decide +kernel
theorem dX0_bearableDelay_11 : decode cX0_bearableDelay 11 = .ok (.getfield 14, 3) := by decide +kernel
theorem dX0_bearableDelay_14 : decode cX0_bearableDelay 14 = .ok (.iload_n 1, 1) := by decide +kernel
theorem dX0_bearableDelay_15 : decode cX0_bearableDelay 15 = .ok (.iconst 2, 1) := by decide +kernel
theorem dX0_bearableDelay_16 : decode cX0_bearableDelay 16 = .ok (.invokevirtual 51, 3) := by decide +kernel
theorem dX0_bearableDelay_19 : decode cX0_bearableDelay 19 = .ok (.istore_n 2, 1) := by decide +kernel
theorem dX0_bearableDelay_20 : decode cX0_bearableDelay 20 = .ok (.iconst 0, 1) := by decide +kernel
theorem dX0_bearableDelay_21 : decode cX0_bearableDelay 21 = .ok (.istore_n 3, 1) := by decide +kernel
theorem dX0_bearableDelay_22 : decode cX0_bearableDelay 22 = .ok (.iload_n 3, 1) := by decide +kernel
theorem dX0_bearableDelay_23 : decode cX0_bearableDelay 23 = .ok (.aload_n 0, 1) := by decide +kernel
theorem dX0_bearableDelay_24 : decode cX0_bearableDelay 24 = .ok (.getfield 44, 3) := by decide +kernel
theorem dX0_bearableDelay_27 : decode cX0_bearableDelay 27 = .ok (.if_icmp .ge 55, 3) := by decide +kernel
theorem dX0_bearableDelay_30 : decode cX0_bearableDelay 30 = .ok (.iload_n 3, 1) := by decide +kernel
theorem dX0_bearableDelay_31 : decode cX0_bearableDelay 31 = .ok (.iload_n 1, 1) := by decide +kernel
theorem dX0_bearableDelay_32 : decode cX0_bearableDelay 32 = .ok (.if_icmp .eq 44, 3) := by decide +kernel
theorem dX0_bearableDelay_35 : decode cX0_bearableDelay 35 = .ok (.aload_n 0, 1) := by decide +kernel
theorem dX0_bearableDelay_36 : decode cX0_bearableDelay 36 = .ok (.iload_n 3, 1) := by decide +kernel
theorem dX0_bearableDelay_37 : decode cX0_bearableDelay 37 = .ok (.invokevirtual 55, 3) := by decide +kernel
theorem dX0_bearableDelay_40 : decode cX0_bearableDelay 40 = .ok (.ifCond .eq 36, 3) := by decide +kernel
theorem dX0_bearableDelay_43 : decode cX0_bearableDelay 43 = .ok (.aload_n 0, 1) := by decide +kernel
theorem dX0_bearableDelay_44 : decode cX0_bearableDelay 44 = .ok (.getfield 14, 3) := by decide +kernel
theorem dX0_bearableDelay_47 : decode cX0_bearableDelay 47 = .ok (.iload_n 3, 1) := by decide +kernel
theorem dX0_bearableDelay_48 : decode cX0_bearableDelay 48 = .ok (.iconst 2, 1) := by decide +kernel
theorem dX0_bearableDelay_49 : decode cX0_bearableDelay 49 = .ok (.invokevirtual 51, 3) := by decide +kernel
theorem dX0_bearableDelay_52 : decode cX0_bearableDelay 52 = .ok (.aload_n 0, 1) := by decide +kernel
theorem dX0_bearableDelay_53 : decode cX0_bearableDelay 53 = .ok (.iload_n 3, 1) := by decide +kernel
theorem dX0_bearableDelay_54 : decode cX0_bearableDelay 54 = .ok (.iload_n 1, 1) := by decide +kernel
theorem dX0_bearableDelay_55 : decode cX0_bearableDelay 55 = .ok (.invokevirtual 123, 3) := by decide +kernel
theorem dX0_bearableDelay_58 : decode cX0_bearableDelay 58 = .ok (.invokestatic 79, 3) := by decide +kernel
theorem dX0_bearableDelay_61 : decode cX0_bearableDelay 61 = .ok (.istore 4, 2) := by decide +kernel
theorem dX0_bearableDelay_63 : decode cX0_bearableDelay 63 = .ok (.iload_n 2, 1) := by decide +kernel
theorem dX0_bearableDelay_64 : decode cX0_bearableDelay 64 = .ok (.iload 4, 2) := by decide +kernel
theorem dX0_bearableDelay_66 : decode cX0_bearableDelay 66 = .ok (.aload_n 0, 1) := by decide +kernel
theorem dX0_bearableDelay_67 : decode cX0_bearableDelay 67 = .ok (.iload_n 3, 1) := by decide +kernel
theorem dX0_bearableDelay_68 : decode cX0_bearableDelay 68 = .ok (.iload 4, 2) := by decide +kernel
theorem dX0_bearableDelay_70 : decode cX0_bearableDelay 70 = .ok (.invokevirtual 59, 3) := by decide +kernel
theorem dX0_bearableDelay_73 : decode cX0_bearableDelay 73 = .ok (.iadd, 1) := by decide +kernel
theorem dX0_bearableDelay_74 : decode cX0_bearableDelay 74 = .ok (.iadd, 1) := by decide +kernel
theorem dX0_bearableDelay_75 : decode cX0_bearableDelay 75 = .ok (.istore_n 2, 1) := by decide +kernel
theorem dX0_bearableDelay_76 : decode cX0_bearableDelay 76 = .ok (.iinc 3 1, 3) := by decide +kernel
theorem dX0_bearableDelay_79 : decode cX0_bearableDelay 79 = .ok (.goto (-57), 3) := by decide +kernel
theorem dX0_bearableDelay_82 : decode cX0_bearableDelay 82 = .ok (.iload_n 2, 1) := by decide +kernel
theorem dX0_bearableDelay_83 : decode cX0_bearableDelay 83 = .ok (.ireturn, 1) := by decide +kernel
theorem dX0_weakestProject_0 : decode cX0_weakestProject 0 = .ok (.iconst (-1), 1) := by decide +kernel
theorem dX0_weakestProject_1 : decode cX0_weakestProject 1 = .ok (.istore_n 1, 1) := by decide +kernel
theorem dX0_weakestProject_2 : decode cX0_weakestProject 2 = .ok (.iconst (-1), 1) := by decide +kernel
theorem dX0_weakestProject_3 : decode cX0_weakestProject 3 = .ok (.istore_n 2, 1) := by decide +kernel
theorem dX0_weakestProject_4 : decode cX0_weakestProject 4 = .ok (.iconst 0, 1) := by decide +kernel
theorem dX0_weakestProject_5 : decode cX0_weakestProject 5 = .ok (.istore_n 3, 1) := by decide +kernel
theorem dX0_weakestProject_6 : decode cX0_weakestProject 6 = .ok (.iload_n 3, 1) := by decide +kernel
theorem dX0_weakestProject_7 : decode cX0_weakestProject 7 = .ok (.aload_n 0, 1) := by decide +kernel
theorem dX0_weakestProject_8 : decode cX0_weakestProject 8 = .ok (.getfield 44, 3) := by decide +kernel
theorem dX0_weakestProject_11 : decode cX0_weakestProject 11 = .ok (.if_icmp .ge 40, 3) := by decide +kernel
theorem dX0_weakestProject_14 : decode cX0_weakestProject 14 = .ok (.aload_n 0, 1) := by decide +kernel
theorem dX0_weakestProject_15 : decode cX0_weakestProject 15 = .ok (.iload_n 3, 1) := by decide +kernel
theorem dX0_weakestProject_16 : decode cX0_weakestProject 16 = .ok (.invokevirtual 126, 3) := by decide +kernel
theorem dX0_weakestProject_19 : decode cX0_weakestProject 19 = .ok (.istore 4, 2) := by decide +kernel
theorem dX0_weakestProject_21 : decode cX0_weakestProject 21 = .ok (.aload_n 0, 1) := by decide +kernel
theorem dX0_weakestProject_22 : decode cX0_weakestProject 22 = .ok (.iload_n 3, 1) := by decide +kernel
theorem dX0_weakestProject_23 : decode cX0_weakestProject 23 = .ok (.invokevirtual 55, 3) := by decide +kernel
theorem dX0_weakestProject_26 : decode cX0_weakestProject 26 = .ok (.ifCond .eq 19, 3) := by decide +kernel
theorem dX0_weakestProject_29 : decode cX0_weakestProject 29 = .ok (.iload_n 1, 1) := by decide +kernel
theorem dX0_weakestProject_30 : decode cX0_weakestProject 30 = .ok (.iconst (-1), 1) := by decide +kernel
theorem dX0_weakestProject_31 : decode cX0_weakestProject 31 = .ok (.if_icmp .eq 9, 3) := by decide +kernel
theorem dX0_weakestProject_34 : decode cX0_weakestProject 34 = .ok (.iload 4, 2) := by decide +kernel
theorem dX0_weakestProject_36 : decode cX0_weakestProject 36 = .ok (.iload_n 2, 1) := by decide +kernel
theorem dX0_weakestProject_37 : decode cX0_weakestProject 37 = .ok (.if_icmp .ge 8, 3) := by decide +kernel
theorem dX0_weakestProject_40 : decode cX0_weakestProject 40 = .ok (.iload_n 3, 1) := by decide +kernel
theorem dX0_weakestProject_41 : decode cX0_weakestProject 41 = .ok (.istore_n 1, 1) := by decide +kernel
theorem dX0_weakestProject_42 : decode cX0_weakestProject 42 = .ok (.iload 4, 2) := by decide +kernel
theorem dX0_weakestProject_44 : decode cX0_weakestProject 44 = .ok (.istore_n 2, 1) := by decide +kernel
theorem dX0_weakestProject_45 : decode cX0_weakestProject 45 = .ok (.iinc 3 1, 3) := by decide +kernel
theorem dX0_weakestProject_48 : decode cX0_weakestProject 48 = .ok (.goto (-42), 3) := by decide +kernel
theorem dX0_weakestProject_51 : decode cX0_weakestProject 51 = .ok (.iload_n 1, 1) := by decide +kernel
theorem dX0_weakestProject_52 : decode cX0_weakestProject 52 = .ok (.ireturn, 1) := by decide +kernel
theorem dX1_init_0 : decode cX1_init 0 = .ok (.aload_n 0, 1) := by decide +kernel
theorem dX1_init_1 : decode cX1_init 1 = .ok (.invokespecial 3, 3) := by decide +kernel
theorem dX1_init_4 : decode cX1_init 4 = .ok (.aload_n 0, 1) := by decide +kernel
theorem dX1_init_5 : decode cX1_init 5 = .ok (.bipush 6, 2) := by decide +kernel
theorem dX1_init_7 : decode cX1_init 7 = .ok (.anewarray 9, 3) := by decide +kernel
theorem dX1_init_10 : decode cX1_init 10 = .ok (.putfield 11, 3) := by decide +kernel
theorem dX1_init_13 : decode cX1_init 13 = .ok (.iconst 0, 1) := by decide +kernel
theorem dX1_init_14 : decode cX1_init 14 = .ok (.istore_n 1, 1) := by decide +kernel
theorem dX1_init_15 : decode cX1_init 15 = .ok (.iload_n 1, 1) := by decide +kernel
theorem dX1_init_16 : decode cX1_init 16 = .ok (.aload_n 0, 1) := by decide +kernel
theorem dX1_init_17 : decode cX1_init 17 = .ok (.getfield 11, 3) := by decide +kernel
theorem dX1_init_20 : decode cX1_init 20 = .ok (.arraylength, 1) := by decide +kernel
theorem dX1_init_21 : decode cX1_init 21 = .ok (.if_icmp .ge 22, 3) := by decide +kernel
theorem dX1_init_24 : decode cX1_init 24 = .ok (.aload_n 0, 1) := by decide +kernel
theorem dX1_init_25 : decode cX1_init 25 = .ok (.getfield 11, 3) := by decide +kernel
theorem dX1_init_28 : decode cX1_init 28 = .ok (.iload_n 1, 1) := by decide +kernel
theorem dX1_init_29 : decode cX1_init 29 = .ok (.new 9, 3) := by decide +kernel
theorem dX1_init_32 : decode cX1_init 32 = .ok (.dup, 1) := by decide +kernel
theorem dX1_init_33 : decode cX1_init 33 = .ok (.invokespecial 17, 3) := by decide +kernel
theorem dX1_init_36 : decode cX1_init 36 = .ok (.aastore, 1) := by decide +kernel
theorem dX1_init_37 : decode cX1_init 37 = .ok (.iinc 1 1, 3) := by decide +kernel
theorem dX1_init_40 : decode cX1_init 40 = .ok (.goto (-25), 3) := by decide +kernel
theorem dX1_init_43 : decode cX1_init 43 = .ok (.return_, 1) := by decide +kernel
theorem dX1_size_0 : decode cX1_size 0 = .ok (.aload_n 0, 1) := by decide +kernel
theorem dX1_size_1 : decode cX1_size 1 = .ok (.getfield 18, 3) := by decide +kernel
theorem dX1_size_4 : decode cX1_size 4 = .ok (.ireturn, 1) := by decide +kernel
theorem dX1_keep_0 : decode cX1_keep 0 = .ok (.aload_n 0, 1) := by decide +kernel
theorem dX1_keep_1 : decode cX1_keep 1 = .ok (.aload_n 0, 1) := by decide +kernel
theorem dX1_keep_2 : decode cX1_keep 2 = .ok (.getfield 22, 3) := by decide +kernel
theorem dX1_keep_5 : decode cX1_keep 5 = .ok (.invokevirtual 25, 3) := by decide +kernel
theorem dX1_keep_8 : decode cX1_keep 8 = .ok (.astore_n 2, 1) := by decide +kernel
theorem dX1_keep_9 : decode cX1_keep 9 = .ok (.aload_n 2, 1) := by decide +kernel
theorem dX1_keep_10 : decode cX1_keep 10 = .ok (.ifnull 8, 3) := by decide +kernel
theorem dX1_keep_13 : decode cX1_keep 13 = .ok (.aload_n 2, 1) := by decide +kernel
theorem dX1_keep_14 : decode cX1_keep 14 = .ok (.aload_n 1, 1) := by decide +kernel
theorem dX1_keep_15 : decode cX1_keep 15 = .ok (.invokevirtual 29, 3) := by decide +kernel
theorem dX1_keep_18 : decode cX1_keep 18 = .ok (.aload_n 0, 1) := by decide +kernel
theorem dX1_keep_19 : decode cX1_keep 19 = .ok (.aload_n 0, 1) := by decide +kernel
theorem dX1_keep_20 : decode cX1_keep 20 = .ok (.getfield 22, 3) := by decide +kernel
theorem dX1_keep_23 : decode cX1_keep 23 = .ok (.iconst 1, 1) := by decide +kernel
theorem dX1_keep_24 : decode cX1_keep 24 = .ok (.iadd, 1) := by decide +kernel
theorem dX1_keep_25 : decode cX1_keep 25 = .ok (.bipush 6, 2) := by decide +kernel
theorem dX1_keep_27 : decode cX1_keep 27 = .ok (.irem, 1) := by decide +kernel
theorem dX1_keep_28 : decode cX1_keep 28 = .ok (.putfield 22, 3) := by decide +kernel
theorem dX1_keep_31 : decode cX1_keep 31 = .ok (.aload_n 0, 1) := by decide +kernel
theorem dX1_keep_32 : decode cX1_keep 32 = .ok (.aload_n 0, 1) := by decide +kernel
theorem dX1_keep_33 : decode cX1_keep 33 = .ok (.getfield 18, 3) := by decide +kernel
theorem dX1_keep_36 : decode cX1_keep 36 = .ok (.iconst 1, 1) := by decide +kernel
theorem dX1_keep_37 : decode cX1_keep 37 = .ok (.iadd, 1) := by decide +kernel
theorem dX1_keep_38 : decode cX1_keep 38 = .ok (.bipush 6, 2) := by decide +kernel
theorem dX1_keep_40 : decode cX1_keep 40 = .ok (.invokestatic 33, 3) := by decide +kernel
theorem dX1_keep_43 : decode cX1_keep 43 = .ok (.putfield 18, 3) := by decide +kernel
theorem dX1_keep_46 : decode cX1_keep 46 = .ok (.return_, 1) := by decide +kernel
theorem dX1_giveBack_0 : decode cX1_giveBack 0 = .ok (.aload_n 0, 1) := by decide +kernel
theorem dX1_giveBack_1 : decode cX1_giveBack 1 = .ok (.aload_n 0, 1) := by decide +kernel
theorem dX1_giveBack_2 : decode cX1_giveBack 2 = .ok (.getfield 22, 3) := by decide +kernel
theorem dX1_giveBack_5 : decode cX1_giveBack 5 = .ok (.bipush 6, 2) := by decide +kernel
theorem dX1_giveBack_7 : decode cX1_giveBack 7 = .ok (.iadd, 1) := by decide +kernel
theorem dX1_giveBack_8 : decode cX1_giveBack 8 = .ok (.iconst 1, 1) := by decide +kernel
theorem dX1_giveBack_9 : decode cX1_giveBack 9 = .ok (.isub, 1) := by decide +kernel
theorem dX1_giveBack_10 : decode cX1_giveBack 10 = .ok (.bipush 6, 2) := by decide +kernel
theorem dX1_giveBack_12 : decode cX1_giveBack 12 = .ok (.irem, 1) := by decide +kernel
theorem dX1_giveBack_13 : decode cX1_giveBack 13 = .ok (.putfield 22, 3) := by decide +kernel
theorem dX1_giveBack_16 : decode cX1_giveBack 16 = .ok (.aload_n 0, 1) := by decide +kernel
theorem dX1_giveBack_17 : decode cX1_giveBack 17 = .ok (.aload_n 0, 1) := by decide +kernel
theorem dX1_giveBack_18 : decode cX1_giveBack 18 = .ok (.getfield 18, 3) := by decide +kernel
theorem dX1_giveBack_21 : decode cX1_giveBack 21 = .ok (.iconst 1, 1) := by decide +kernel
theorem dX1_giveBack_22 : decode cX1_giveBack 22 = .ok (.isub, 1) := by decide +kernel
theorem dX1_giveBack_23 : decode cX1_giveBack 23 = .ok (.iconst 0, 1) := by decide +kernel
theorem dX1_giveBack_24 : decode cX1_giveBack 24 = .ok (.invokestatic 39, 3) := by decide +kernel
theorem dX1_giveBack_27 : decode cX1_giveBack 27 = .ok (.putfield 18, 3) := by decide +kernel
theorem dX1_giveBack_30 : decode cX1_giveBack 30 = .ok (.aload_n 0, 1) := by decide +kernel
theorem dX1_giveBack_31 : decode cX1_giveBack 31 = .ok (.aload_n 0, 1) := by decide +kernel
theorem dX1_giveBack_32 : decode cX1_giveBack 32 = .ok (.getfield 22, 3) := by decide +kernel
theorem dX1_giveBack_35 : decode cX1_giveBack 35 = .ok (.invokevirtual 25, 3) := by decide +kernel
theorem dX1_giveBack_38 : decode cX1_giveBack 38 = .ok (.astore_n 2, 1) := by decide +kernel
theorem dX1_giveBack_39 : decode cX1_giveBack 39 = .ok (.aload_n 2, 1) := by decide +kernel
theorem dX1_giveBack_40 : decode cX1_giveBack 40 = .ok (.ifnull 8, 3) := by decide +kernel
theorem dX1_giveBack_43 : decode cX1_giveBack 43 = .ok (.aload_n 1, 1) := by decide +kernel
theorem dX1_giveBack_44 : decode cX1_giveBack 44 = .ok (.aload_n 2, 1) := by decide +kernel
theorem dX1_giveBack_45 : decode cX1_giveBack 45 = .ok (.invokevirtual 29, 3) := by decide +kernel
theorem dX1_giveBack_48 : decode cX1_giveBack 48 = .ok (.return_, 1) := by decide +kernel
theorem dX1_slotAt_0 : decode cX1_slotAt 0 = .ok (.iload_n 1, 1) := by decide +kernel
theorem dX1_slotAt_1 : decode cX1_slotAt 1 = .ok (.ifCond .lt 21, 3) := by decide +kernel
theorem dX1_slotAt_4 : decode cX1_slotAt 4 = .ok (.iload_n 1, 1) := by decide +kernel
theorem dX1_slotAt_5 : decode cX1_slotAt 5 = .ok (.aload_n 0, 1) := by decide +kernel
theorem dX1_slotAt_6 : decode cX1_slotAt 6 = .ok (.getfield 11, 3) := by decide +kernel
theorem dX1_slotAt_9 : decode cX1_slotAt 9 = .ok (.arraylength, 1) := by decide +kernel
theorem dX1_slotAt_10 : decode cX1_slotAt 10 = .ok (.if_icmp .ge 12, 3) := by decide +kernel
theorem dX1_slotAt_13 : decode cX1_slotAt 13 = .ok (.aload_n 0, 1) := by decide +kernel
theorem dX1_slotAt_14 : decode cX1_slotAt 14 = .ok (.getfield 11, 3) := by decide +kernel
theorem dX1_slotAt_17 : decode cX1_slotAt 17 = .ok (.iload_n 1, 1) := by decide +kernel
theorem dX1_slotAt_18 : decode cX1_slotAt 18 = .ok (.aaload, 1) := by decide +kernel
theorem dX1_slotAt_19 : decode cX1_slotAt 19 = .ok (.goto 4, 3) := by decide +kernel
theorem dX1_slotAt_22 : decode cX1_slotAt 22 = .ok (.aconst_null, 1) := by decide +kernel
theorem dX1_slotAt_23 : decode cX1_slotAt 23 = .ok (.areturn, 1) := by decide +kernel
theorem dX2_init_0 : decode cX2_init 0 = .ok (.aload_n 0, 1) := by decide +kernel
theorem dX2_init_1 : decode cX2_init 1 = .ok (.invokespecial 3, 3) := by decide +kernel
theorem dX2_init_4 : decode cX2_init 4 = .ok (.return_, 1) := by decide +kernel
theorem dX2_isDigit_0 : decode cX2_isDigit 0 = .ok (.iload_n 0, 1) := by decide +kernel
theorem dX2_isDigit_1 : decode cX2_isDigit 1 = .ok (.bipush 48, 2) := by decide +kernel
theorem dX2_isDigit_3 : decode cX2_isDigit 3 = .ok (.if_icmp .lt 13, 3) := by decide +kernel
theorem dX2_isDigit_6 : decode cX2_isDigit 6 = .ok (.iload_n 0, 1) := by decide +kernel
theorem dX2_isDigit_7 : decode cX2_isDigit 7 = .ok (.bipush 57, 2) := by decide +kernel
theorem dX2_isDigit_9 : decode cX2_isDigit 9 = .ok (.if_icmp .gt 7, 3) := by decide +kernel
theorem dX2_isDigit_12 : decode cX2_isDigit 12 = .ok (.iconst 1, 1) := by decide +kernel
theorem dX2_isDigit_13 : decode cX2_isDigit 13 = .ok (.goto 4, 3) := by decide +kernel
theorem dX2_isDigit_16 : decode cX2_isDigit 16 = .ok (.iconst 0, 1) := by decide +kernel
theorem dX2_isDigit_17 : decode cX2_isDigit 17 = .ok (.ireturn, 1) := by decide +kernel
theorem dX2_start_0 : decode cX2_start 0 = .ok (.aload_n 0, 1) := by decide +kernel
theorem dX2_start_1 : decode cX2_start 1 = .ok (.iconst 0, 1) := by decide +kernel
theorem dX2_start_2 : decode cX2_start 2 = .ok (.invokevirtual 11, 3) := by decide +kernel
theorem dX2_start_5 : decode cX2_start 5 = .ok (.return_, 1) := by decide +kernel
theorem dX2_takes_0 : decode cX2_takes 0 = .ok (.iload_n 1, 1) := by decide +kernel
theorem dX2_takes_1 : decode cX2_takes 1 = .ok (.invokestatic 15, 3) := by decide +kernel
theorem dX2_takes_4 : decode cX2_takes 4 = .ok (.ifCond .eq 14, 3) := by decide +kernel
theorem dX2_takes_7 : decode cX2_takes 7 = .ok (.aload_n 0, 1) := by decide +kernel
theorem dX2_takes_8 : decode cX2_takes 8 = .ok (.iload_n 1, 1) := by decide +kernel
theorem dX2_takes_9 : decode cX2_takes 9 = .ok (.bipush 48, 2) := by decide +kernel
theorem dX2_takes_11 : decode cX2_takes 11 = .ok (.isub, 1) := by decide +kernel
theorem dX2_takes_12 : decode cX2_takes 12 = .ok (.invokevirtual 19, 3) := by decide +kernel
theorem dX2_takes_15 : decode cX2_takes 15 = .ok (.goto 24, 3) := by decide +kernel
theorem dX2_takes_18 : decode cX2_takes 18 = .ok (.aload_n 0, 1) := by decide +kernel
theorem dX2_takes_19 : decode cX2_takes 19 = .ok (.getfield 22, 3) := by decide +kernel
theorem dX2_takes_22 : decode cX2_takes 22 = .ok (.iconst (-1), 1) := by decide +kernel
theorem dX2_takes_23 : decode cX2_takes 23 = .ok (.if_icmp .eq 15, 3) := by decide +kernel
theorem dX2_takes_26 : decode cX2_takes 26 = .ok (.aload_n 0, 1) := by decide +kernel
theorem dX2_takes_27 : decode cX2_takes 27 = .ok (.iload_n 1, 1) := by decide +kernel
theorem dX2_takes_28 : decode cX2_takes 28 = .ok (.invokevirtual 26, 3) := by decide +kernel
theorem dX2_takes_31 : decode cX2_takes 31 = .ok (.ifCond .eq 7, 3) := by decide +kernel
theorem dX2_takes_34 : decode cX2_takes 34 = .ok (.iconst 1, 1) := by decide +kernel
theorem dX2_takes_35 : decode cX2_takes 35 = .ok (.goto 4, 3) := by decide +kernel
theorem dX2_takes_38 : decode cX2_takes 38 = .ok (.iconst 0, 1) := by decide +kernel
theorem dX2_takes_39 : decode cX2_takes 39 = .ok (.ireturn, 1) := by decide +kernel
theorem dX2_isAtEndOfPlan_0 : decode cX2_isAtEndOfPlan 0 = .ok (.aload_n 0, 1) := by decide +kernel
theorem dX2_isAtEndOfPlan_1 : decode cX2_isAtEndOfPlan 1 = .ok (.getfield 29, 3) := by decide +kernel
theorem dX2_isAtEndOfPlan_4 : decode cX2_isAtEndOfPlan 4 = .ok (.iconst 2, 1) := by decide +kernel
theorem dX2_isAtEndOfPlan_5 : decode cX2_isAtEndOfPlan 5 = .ok (.if_icmp .ne 15, 3) := by decide +kernel
theorem dX2_isAtEndOfPlan_8 : decode cX2_isAtEndOfPlan 8 = .ok (.aload_n 0, 1) := by decide +kernel
theorem dX2_isAtEndOfPlan_9 : decode cX2_isAtEndOfPlan 9 = .ok (.getfield 22, 3) := by decide +kernel
theorem dX2_isAtEndOfPlan_12 : decode cX2_isAtEndOfPlan 12 = .ok (.iconst (-1), 1) := by decide +kernel
theorem dX2_isAtEndOfPlan_13 : decode cX2_isAtEndOfPlan 13 = .ok (.if_icmp .eq 7, 3) := by decide +kernel
theorem dX2_isAtEndOfPlan_16 : decode cX2_isAtEndOfPlan 16 = .ok (.iconst 1, 1) := by decide +kernel
theorem dX2_isAtEndOfPlan_17 : decode cX2_isAtEndOfPlan 17 = .ok (.goto 4, 3) := by decide +kernel
theorem dX2_isAtEndOfPlan_20 : decode cX2_isAtEndOfPlan 20 = .ok (.iconst 0, 1) := by decide +kernel
theorem dX2_isAtEndOfPlan_21 : decode cX2_isAtEndOfPlan 21 = .ok (.ireturn, 1) := by decide +kernel
theorem dX2_begin_0 : decode cX2_begin 0 = .ok (.aload_n 0, 1) := by decide +kernel
theorem dX2_begin_1 : decode cX2_begin 1 = .ok (.iload_n 1, 1) := by decide +kernel
theorem dX2_begin_2 : decode cX2_begin 2 = .ok (.putfield 29, 3) := by decide +kernel
theorem dX2_begin_5 : decode cX2_begin 5 = .ok (.aload_n 0, 1) := by decide +kernel
theorem dX2_begin_6 : decode cX2_begin 6 = .ok (.iconst (-1), 1) := by decide +kernel
theorem dX2_begin_7 : decode cX2_begin 7 = .ok (.putfield 22, 3) := by decide +kernel
theorem dX2_begin_10 : decode cX2_begin 10 = .ok (.return_, 1) := by decide +kernel
theorem dX2_takesDigit_0 : decode cX2_takesDigit 0 = .ok (.aload_n 0, 1) := by decide +kernel
theorem dX2_takesDigit_1 : decode cX2_takesDigit 1 = .ok (.getfield 22, 3) := by decide +kernel
theorem dX2_takesDigit_4 : decode cX2_takesDigit 4 = .ok (.iconst (-1), 1) := by decide +kernel
theorem dX2_takesDigit_5 : decode cX2_takesDigit 5 = .ok (.if_icmp .ne 7, 3) := by decide +kernel
theorem dX2_takesDigit_8 : decode cX2_takesDigit 8 = .ok (.iload_n 1, 1) := by decide +kernel
theorem dX2_takesDigit_9 : decode cX2_takesDigit 9 = .ok (.goto 12, 3) := by decide +kernel
theorem dX2_takesDigit_12 : decode cX2_takesDigit 12 = .ok (.aload_n 0, 1) := by decide +kernel
theorem dX2_takesDigit_13 : decode cX2_takesDigit 13 = .ok (.getfield 22, 3) := by decide +kernel
theorem dX2_takesDigit_16 : decode cX2_takesDigit 16 = .ok (.bipush 10, 2) := by decide +kernel
theorem dX2_takesDigit_18 : decode cX2_takesDigit 18 = .ok (.imul, 1) := by decide +kernel
theorem dX2_takesDigit_19 : decode cX2_takesDigit 19 = .ok (.iload_n 1, 1) := by decide +kernel
theorem dX2_takesDigit_20 : decode cX2_takesDigit 20 = .ok (.iadd, 1) := by decide +kernel
theorem dX2_takesDigit_21 : decode cX2_takesDigit 21 = .ok (.istore_n 2, 1) := by decide +kernel
theorem dX2_takesDigit_22 : decode cX2_takesDigit 22 = .ok (.aload_n 0, 1) := by decide +kernel
theorem dX2_takesDigit_23 : decode cX2_takesDigit 23 = .ok (.getfield 22, 3) := by decide +kernel
theorem dX2_takesDigit_26 : decode cX2_takesDigit 26 = .ok (.ifCond .eq 19, 3) := by decide +kernel
theorem dX2_takesDigit_29 : decode cX2_takesDigit 29 = .ok (.iload_n 2, 1) := by decide +kernel
theorem dX2_takesDigit_30 : decode cX2_takesDigit 30 = .ok (.aload_n 0, 1) := by decide +kernel
theorem dX2_takesDigit_31 : decode cX2_takesDigit 31 = .ok (.invokevirtual 32, 3) := by decide +kernel
theorem dX2_takesDigit_34 : decode cX2_takesDigit 34 = .ok (.if_icmp .lt 11, 3) := by decide +kernel
theorem dX2_takesDigit_37 : decode cX2_takesDigit 37 = .ok (.iload_n 2, 1) := by decide +kernel
theorem dX2_takesDigit_38 : decode cX2_takesDigit 38 = .ok (.aload_n 0, 1) := by decide +kernel
theorem dX2_takesDigit_39 : decode cX2_takesDigit 39 = .ok (.invokevirtual 36, 3) := by decide +kernel
theorem dX2_takesDigit_42 : decode cX2_takesDigit 42 = .ok (.if_icmp .le 5, 3) := by decide +kernel
theorem dX2_takesDigit_45 : decode cX2_takesDigit 45 = .ok (.iconst 0, 1) := by decide +kernel
theorem dX2_takesDigit_46 : decode cX2_takesDigit 46 = .ok (.ireturn, 1) := by decide +kernel
theorem dX2_takesDigit_47 : decode cX2_takesDigit 47 = .ok (.aload_n 0, 1) := by decide +kernel
theorem dX2_takesDigit_48 : decode cX2_takesDigit 48 = .ok (.iload_n 2, 1) := by decide +kernel
theorem dX2_takesDigit_49 : decode cX2_takesDigit 49 = .ok (.putfield 22, 3) := by decide +kernel
theorem dX2_takesDigit_52 : decode cX2_takesDigit 52 = .ok (.iconst 1, 1) := by decide +kernel
theorem dX2_takesDigit_53 : decode cX2_takesDigit 53 = .ok (.ireturn, 1) := by decide +kernel
theorem dX2_leastNumber_0 : decode cX2_leastNumber 0 = .ok (.aload_n 0, 1) := by decide +kernel
theorem dX2_leastNumber_1 : decode cX2_leastNumber 1 = .ok (.getfield 29, 3) := by decide +kernel
theorem dX2_leastNumber_4 : decode cX2_leastNumber 4 = .ok (.iconst 1, 1) := by decide +kernel
theorem dX2_leastNumber_5 : decode cX2_leastNumber 5 = .ok (.if_icmp .ne 7, 3) := by decide +kernel
theorem dX2_leastNumber_8 : decode cX2_leastNumber 8 = .ok (.iconst 0, 1) := by decide +kernel
theorem dX2_leastNumber_9 : decode cX2_leastNumber 9 = .ok (.goto 4, 3) := by decide +kernel
theorem dX2_leastNumber_12 : decode cX2_leastNumber 12 = .ok (.iconst 1, 1) := by decide +kernel
theorem dX2_leastNumber_13 : decode cX2_leastNumber 13 = .ok (.ireturn, 1) := by decide +kernel
theorem dX2_greatestNumber_0 : decode cX2_greatestNumber 0 = .ok (.aload_n 0, 1) := by decide +kernel
theorem dX2_greatestNumber_1 : decode cX2_greatestNumber 1 = .ok (.getfield 29, 3) := by decide +kernel
theorem dX2_greatestNumber_4 : decode cX2_greatestNumber 4 = .ok (.ifCond .ne 6, 3) := by decide +kernel
theorem dX2_greatestNumber_7 : decode cX2_greatestNumber 7 = .ok (.bipush 9, 2) := by decide +kernel
theorem dX2_greatestNumber_9 : decode cX2_greatestNumber 9 = .ok (.ireturn, 1) := by decide +kernel
theorem dX2_greatestNumber_10 : decode cX2_greatestNumber 10 = .ok (.aload_n 0, 1) := by decide +kernel
theorem dX2_greatestNumber_11 : decode cX2_greatestNumber 11 = .ok (.getfield 29, 3) := by decide +kernel
theorem dX2_greatestNumber_14 : decode cX2_greatestNumber 14 = .ok (.iconst 1, 1) := by decide +kernel
theorem dX2_greatestNumber_15 : decode cX2_greatestNumber 15 = .ok (.if_icmp .ne 8, 3) := by decide +kernel
theorem dX2_greatestNumber_18 : decode cX2_greatestNumber 18 = .ok (.bipush 99, 2) := by decide +kernel
theorem dX2_greatestNumber_20 : decode cX2_greatestNumber 20 = .ok (.goto 5, 3) := by decide +kernel
theorem dX2_greatestNumber_23 : decode cX2_greatestNumber 23 = .ok (.bipush 60, 2) := by decide +kernel
theorem dX2_greatestNumber_25 : decode cX2_greatestNumber 25 = .ok (.ireturn, 1) := by decide +kernel
theorem dX2_takesSign_0 : decode cX2_takesSign 0 = .ok (.aload_n 0, 1) := by decide +kernel
theorem dX2_takesSign_1 : decode cX2_takesSign 1 = .ok (.getfield 29, 3) := by decide +kernel
theorem dX2_takesSign_4 : decode cX2_takesSign 4 = .ok (.ifCond .ne 16, 3) := by decide +kernel
theorem dX2_takesSign_7 : decode cX2_takesSign 7 = .ok (.iload_n 1, 1) := by decide +kernel
theorem dX2_takesSign_8 : decode cX2_takesSign 8 = .ok (.bipush 58, 2) := by decide +kernel
theorem dX2_takesSign_10 : decode cX2_takesSign 10 = .ok (.if_icmp .ne 10, 3) := by decide +kernel
theorem dX2_takesSign_13 : decode cX2_takesSign 13 = .ok (.aload_n 0, 1) := by decide +kernel
theorem dX2_takesSign_14 : decode cX2_takesSign 14 = .ok (.iconst 1, 1) := by decide +kernel
theorem dX2_takesSign_15 : decode cX2_takesSign 15 = .ok (.invokevirtual 11, 3) := by decide +kernel
theorem dX2_takesSign_18 : decode cX2_takesSign 18 = .ok (.iconst 1, 1) := by decide +kernel
theorem dX2_takesSign_19 : decode cX2_takesSign 19 = .ok (.ireturn, 1) := by decide +kernel
theorem dX2_takesSign_20 : decode cX2_takesSign 20 = .ok (.aload_n 0, 1) := by decide +kernel
theorem dX2_takesSign_21 : decode cX2_takesSign 21 = .ok (.getfield 29, 3) := by decide +kernel
theorem dX2_takesSign_24 : decode cX2_takesSign 24 = .ok (.iconst 1, 1) := by decide +kernel
theorem dX2_takesSign_25 : decode cX2_takesSign 25 = .ok (.if_icmp .ne 21, 3) := by decide +kernel
theorem dX2_takesSign_28 : decode cX2_takesSign 28 = .ok (.iload_n 1, 1) := by decide +kernel
theorem dX2_takesSign_29 : decode cX2_takesSign 29 = .ok (.bipush 58, 2) := by decide +kernel
theorem dX2_takesSign_31 : decode cX2_takesSign 31 = .ok (.if_icmp .ne 15, 3) := by decide +kernel
theorem dX2_takesSign_34 : decode cX2_takesSign 34 = .ok (.aload_n 0, 1) := by decide +kernel
theorem dX2_takesSign_35 : decode cX2_takesSign 35 = .ok (.iconst 2, 1) := by decide +kernel
theorem dX2_takesSign_36 : decode cX2_takesSign 36 = .ok (.invokevirtual 11, 3) := by decide +kernel
theorem dX2_takesSign_39 : decode cX2_takesSign 39 = .ok (.aload_n 0, 1) := by decide +kernel
theorem dX2_takesSign_40 : decode cX2_takesSign 40 = .ok (.iconst 1, 1) := by decide +kernel
theorem dX2_takesSign_41 : decode cX2_takesSign 41 = .ok (.putfield 39, 3) := by decide +kernel
theorem dX2_takesSign_44 : decode cX2_takesSign 44 = .ok (.iconst 1, 1) := by decide +kernel
theorem dX2_takesSign_45 : decode cX2_takesSign 45 = .ok (.ireturn, 1) := by decide +kernel
theorem dX2_takesSign_46 : decode cX2_takesSign 46 = .ok (.aload_n 0, 1) := by decide +kernel
theorem dX2_takesSign_47 : decode cX2_takesSign 47 = .ok (.getfield 29, 3) := by decide +kernel
theorem dX2_takesSign_50 : decode cX2_takesSign 50 = .ok (.iconst 2, 1) := by decide +kernel
theorem dX2_takesSign_51 : decode cX2_takesSign 51 = .ok (.if_icmp .ne 35, 3) := by decide +kernel
theorem dX2_takesSign_54 : decode cX2_takesSign 54 = .ok (.iload_n 1, 1) := by decide +kernel
theorem dX2_takesSign_55 : decode cX2_takesSign 55 = .ok (.bipush 43, 2) := by decide +kernel
theorem dX2_takesSign_57 : decode cX2_takesSign 57 = .ok (.if_icmp .ne 29, 3) := by decide +kernel
theorem dX2_takesSign_60 : decode cX2_takesSign 60 = .ok (.aload_n 0, 1) := by decide +kernel
theorem dX2_takesSign_61 : decode cX2_takesSign 61 = .ok (.getfield 39, 3) := by decide +kernel
theorem dX2_takesSign_64 : decode cX2_takesSign 64 = .ok (.bipush 8, 2) := by decide +kernel
theorem dX2_takesSign_66 : decode cX2_takesSign 66 = .ok (.if_icmp .ge 20, 3) := by decide +kernel
theorem dX2_takesSign_69 : decode cX2_takesSign 69 = .ok (.aload_n 0, 1) := by decide +kernel
theorem dX2_takesSign_70 : decode cX2_takesSign 70 = .ok (.iconst 2, 1) := by decide +kernel
theorem dX2_takesSign_71 : decode cX2_takesSign 71 = .ok (.invokevirtual 11, 3) := by decide +kernel
theorem dX2_takesSign_74 : decode cX2_takesSign 74 = .ok (.aload_n 0, 1) := by decide +kernel
theorem dX2_takesSign_75 : decode cX2_takesSign 75 = .ok (.dup, 1) := by decide +kernel
theorem dX2_takesSign_76 : decode cX2_takesSign 76 = .ok (.getfield 39, 3) := by decide +kernel
theorem dX2_takesSign_79 : decode cX2_takesSign 79 = .ok (.iconst 1, 1) := by decide +kernel
theorem dX2_takesSign_80 : decode cX2_takesSign 80 = .ok (.iadd, 1) := by decide +kernel
theorem dX2_takesSign_81 : decode cX2_takesSign 81 = .ok (.putfield 39, 3) := by decide +kernel
theorem dX2_takesSign_84 : decode cX2_takesSign 84 = .ok (.iconst 1, 1) := by decide +kernel
theorem dX2_takesSign_85 : decode cX2_takesSign 85 = .ok (.ireturn, 1) := by decide +kernel
theorem dX2_takesSign_86 : decode cX2_takesSign 86 = .ok (.aload_n 0, 1) := by decide +kernel
theorem dX2_takesSign_87 : decode cX2_takesSign 87 = .ok (.getfield 29, 3) := by decide +kernel
theorem dX2_takesSign_90 : decode cX2_takesSign 90 = .ok (.iconst 2, 1) := by decide +kernel
theorem dX2_takesSign_91 : decode cX2_takesSign 91 = .ok (.if_icmp .ne 16, 3) := by decide +kernel
theorem dX2_takesSign_94 : decode cX2_takesSign 94 = .ok (.iload_n 1, 1) := by decide +kernel
theorem dX2_takesSign_95 : decode cX2_takesSign 95 = .ok (.bipush 59, 2) := by decide +kernel
theorem dX2_takesSign_97 : decode cX2_takesSign 97 = .ok (.if_icmp .ne 10, 3) := by decide +kernel
theorem dX2_takesSign_100 : decode cX2_takesSign 100 = .ok (.aload_n 0, 1) := by decide +kernel
theorem dX2_takesSign_101 : decode cX2_takesSign 101 = .ok (.iconst 0, 1) := by decide +kernel
theorem dX2_takesSign_102 : decode cX2_takesSign 102 = .ok (.invokevirtual 11, 3) := by decide +kernel
theorem dX2_takesSign_105 : decode cX2_takesSign 105 = .ok (.iconst 1, 1) := by decide +kernel
theorem dX2_takesSign_106 : decode cX2_takesSign 106 = .ok (.ireturn, 1) := by decide +kernel
theorem dX2_takesSign_107 : decode cX2_takesSign 107 = .ok (.iconst 0, 1) := by decide +kernel
theorem dX2_takesSign_108 : decode cX2_takesSign 108 = .ok (.ireturn, 1) := by decide +kernel
theorem dX3_init_0 : decode cX3_init 0 = .ok (.aload_n 0, 1) := by decide +kernel
theorem dX3_init_1 : decode cX3_init 1 = .ok (.invokespecial 1, 3) := by decide +kernel
theorem dX3_init_4 : decode cX3_init 4 = .ok (.aload_n 0, 1) := by decide +kernel
theorem dX3_init_5 : decode cX3_init 5 = .ok (.iload_n 2, 1) := by decide +kernel
theorem dX3_init_6 : decode cX3_init 6 = .ok (.putfield 7, 3) := by decide +kernel
theorem dX3_init_9 : decode cX3_init 9 = .ok (.aload_n 0, 1) := by decide +kernel
theorem dX3_init_10 : decode cX3_init 10 = .ok (.iconst 0, 1) := by decide +kernel
theorem dX3_init_11 : decode cX3_init 11 = .ok (.iload_n 1, 1) := by decide +kernel
theorem dX3_init_12 : decode cX3_init 12 = .ok (.iload_n 2, 1) := by decide +kernel
theorem dX3_init_13 : decode cX3_init 13 = .ok (.imul, 1) := by decide +kernel
theorem dX3_init_14 : decode cX3_init 14 = .ok (.invokestatic 13, 3) := by decide +kernel
theorem dX3_init_17 : decode cX3_init 17 = .ok (.newarray .int, 2) := by decide +kernel
theorem dX3_init_19 : decode cX3_init 19 = .ok (.putfield 19, 3) := by decide +kernel
theorem dX3_init_22 : decode cX3_init 22 = .ok (.return_, 1) := by decide +kernel
theorem dX3_get_0 : decode cX3_get 0 = .ok (.iload_n 1, 1) := by decide +kernel
theorem dX3_get_1 : decode cX3_get 1 = .ok (.aload_n 0, 1) := by decide +kernel
theorem dX3_get_2 : decode cX3_get 2 = .ok (.getfield 7, 3) := by decide +kernel
theorem dX3_get_5 : decode cX3_get 5 = .ok (.imul, 1) := by decide +kernel
theorem dX3_get_6 : decode cX3_get 6 = .ok (.iload_n 2, 1) := by decide +kernel
theorem dX3_get_7 : decode cX3_get 7 = .ok (.iadd, 1) := by decide +kernel
theorem dX3_get_8 : decode cX3_get 8 = .ok (.istore_n 3, 1) := by decide +kernel
theorem dX3_get_9 : decode cX3_get 9 = .ok (.iload_n 3, 1) := by decide +kernel
theorem dX3_get_10 : decode cX3_get 10 = .ok (.ifCond .lt 21, 3) := by decide +kernel
theorem dX3_get_13 : decode cX3_get 13 = .ok (.iload_n 3, 1) := by decide +kernel
theorem dX3_get_14 : decode cX3_get 14 = .ok (.aload_n 0, 1) := by decide +kernel
theorem dX3_get_15 : decode cX3_get 15 = .ok (.getfield 19, 3) := by decide +kernel
theorem dX3_get_18 : decode cX3_get 18 = .ok (.arraylength, 1) := by decide +kernel
theorem dX3_get_19 : decode cX3_get 19 = .ok (.if_icmp .ge 12, 3) := by decide +kernel
theorem dX3_get_22 : decode cX3_get 22 = .ok (.aload_n 0, 1) := by decide +kernel
theorem dX3_get_23 : decode cX3_get 23 = .ok (.getfield 19, 3) := by decide +kernel
theorem dX3_get_26 : decode cX3_get 26 = .ok (.iload_n 3, 1) := by decide +kernel
theorem dX3_get_27 : decode cX3_get 27 = .ok (.iaload, 1) := by decide +kernel
theorem dX3_get_28 : decode cX3_get 28 = .ok (.goto 4, 3) := by decide +kernel
theorem dX3_get_31 : decode cX3_get 31 = .ok (.iconst 0, 1) := by decide +kernel
theorem dX3_get_32 : decode cX3_get 32 = .ok (.ireturn, 1) := by decide +kernel
theorem dX3_put_0 : decode cX3_put 0 = .ok (.iload_n 1, 1) := by decide +kernel
theorem dX3_put_1 : decode cX3_put 1 = .ok (.aload_n 0, 1) := by decide +kernel
theorem dX3_put_2 : decode cX3_put 2 = .ok (.getfield 7, 3) := by decide +kernel
theorem dX3_put_5 : decode cX3_put 5 = .ok (.imul, 1) := by decide +kernel
theorem dX3_put_6 : decode cX3_put 6 = .ok (.iload_n 2, 1) := by decide +kernel
theorem dX3_put_7 : decode cX3_put 7 = .ok (.iadd, 1) := by decide +kernel
theorem dX3_put_8 : decode cX3_put 8 = .ok (.istore 4, 2) := by decide +kernel
theorem dX3_put_10 : decode cX3_put 10 = .ok (.iload 4, 2) := by decide +kernel
theorem dX3_put_12 : decode cX3_put 12 = .ok (.ifCond .lt 21, 3) := by decide +kernel
theorem dX3_put_15 : decode cX3_put 15 = .ok (.iload 4, 2) := by decide +kernel
theorem dX3_put_17 : decode cX3_put 17 = .ok (.aload_n 0, 1) := by decide +kernel
theorem dX3_put_18 : decode cX3_put 18 = .ok (.getfield 19, 3) := by decide +kernel
theorem dX3_put_21 : decode cX3_put 21 = .ok (.arraylength, 1) := by decide +kernel
theorem dX3_put_22 : decode cX3_put 22 = .ok (.if_icmp .ge 11, 3) := by decide +kernel
theorem dX3_put_25 : decode cX3_put 25 = .ok (.aload_n 0, 1) := by decide +kernel
theorem dX3_put_26 : decode cX3_put 26 = .ok (.getfield 19, 3) := by decide +kernel
theorem dX3_put_29 : decode cX3_put 29 = .ok (.iload 4, 2) := by decide +kernel
theorem dX3_put_31 : decode cX3_put 31 = .ok (.iload_n 3, 1) := by decide +kernel
theorem dX3_put_32 : decode cX3_put 32 = .ok (.iastore, 1) := by decide +kernel
theorem dX3_put_33 : decode cX3_put 33 = .ok (.return_, 1) := by decide +kernel
theorem dX3_increase_0 : decode cX3_increase 0 = .ok (.iload_n 1, 1) := by decide +kernel
theorem dX3_increase_1 : decode cX3_increase 1 = .ok (.aload_n 0, 1) := by decide +kernel
theorem dX3_increase_2 : decode cX3_increase 2 = .ok (.getfield 7, 3) := by decide +kernel
theorem dX3_increase_5 : decode cX3_increase 5 = .ok (.imul, 1) := by decide +kernel
theorem dX3_increase_6 : decode cX3_increase 6 = .ok (.iload_n 2, 1) := by decide +kernel
theorem dX3_increase_7 : decode cX3_increase 7 = .ok (.iadd, 1) := by decide +kernel
theorem dX3_increase_8 : decode cX3_increase 8 = .ok (.istore 4, 2) := by decide +kernel
theorem dX3_increase_10 : decode cX3_increase 10 = .ok (.iload 4, 2) := by decide +kernel
theorem dX3_increase_12 : decode cX3_increase 12 = .ok (.ifCond .lt 24, 3) := by decide +kernel
theorem dX3_increase_15 : decode cX3_increase 15 = .ok (.iload 4, 2) := by decide +kernel
theorem dX3_increase_17 : decode cX3_increase 17 = .ok (.aload_n 0, 1) := by decide +kernel
theorem dX3_increase_18 : decode cX3_increase 18 = .ok (.getfield 19, 3) := by decide +kernel
theorem dX3_increase_21 : decode cX3_increase 21 = .ok (.arraylength, 1) := by decide +kernel
theorem dX3_increase_22 : decode cX3_increase 22 = .ok (.if_icmp .ge 14, 3) := by decide +kernel
theorem dX3_increase_25 : decode cX3_increase 25 = .ok (.aload_n 0, 1) := by decide +kernel
theorem dX3_increase_26 : decode cX3_increase 26 = .ok (.getfield 19, 3) := by decide +kernel
theorem dX3_increase_29 : decode cX3_increase 29 = .ok (.iload 4, 2) := by decide +kernel
theorem dX3_increase_31 : decode cX3_increase 31 = .ok (.dup2, 1) := by decide +kernel
theorem dX3_increase_32 : decode cX3_increase 32 = .ok (.iaload, 1) := by decide +kernel
theorem dX3_increase_33 : decode cX3_increase 33 = .ok (.iload_n 3, 1) := by decide +kernel
theorem dX3_increase_34 : decode cX3_increase 34 = .ok (.iadd, 1) := by decide +kernel
theorem dX3_increase_35 : decode cX3_increase 35 = .ok (.iastore, 1) := by decide +kernel
theorem dX3_increase_36 : decode cX3_increase 36 = .ok (.return_, 1) := by decide +kernel
theorem dX3_removeRow_0 : decode cX3_removeRow 0 = .ok (.iload_n 1, 1) := by decide +kernel
theorem dX3_removeRow_1 : decode cX3_removeRow 1 = .ok (.aload_n 0, 1) := by decide +kernel
theorem dX3_removeRow_2 : decode cX3_removeRow 2 = .ok (.getfield 7, 3) := by decide +kernel
theorem dX3_removeRow_5 : decode cX3_removeRow 5 = .ok (.imul, 1) := by decide +kernel
theorem dX3_removeRow_6 : decode cX3_removeRow 6 = .ok (.istore_n 2, 1) := by decide +kernel
theorem dX3_removeRow_7 : decode cX3_removeRow 7 = .ok (.iload_n 2, 1) := by decide +kernel
theorem dX3_removeRow_8 : decode cX3_removeRow 8 = .ok (.ifCond .lt 40, 3) := by decide +kernel
theorem dX3_removeRow_11 : decode cX3_removeRow 11 = .ok (.iload_n 2, 1) := by decide +kernel
theorem dX3_removeRow_12 : decode cX3_removeRow 12 = .ok (.aload_n 0, 1) := by decide +kernel
theorem dX3_removeRow_13 : decode cX3_removeRow 13 = .ok (.getfield 19, 3) := by decide +kernel
theorem dX3_removeRow_16 : decode cX3_removeRow 16 = .ok (.arraylength, 1) := by decide +kernel
theorem dX3_removeRow_17 : decode cX3_removeRow 17 = .ok (.aload_n 0, 1) := by decide +kernel
theorem dX3_removeRow_18 : decode cX3_removeRow 18 = .ok (.getfield 7, 3) := by decide +kernel
theorem dX3_removeRow_21 : decode cX3_removeRow 21 = .ok (.isub, 1) := by decide +kernel
theorem dX3_removeRow_22 : decode cX3_removeRow 22 = .ok (.if_icmp .ge 26, 3) := by decide +kernel
theorem dX3_removeRow_25 : decode cX3_removeRow 25 = .ok (.aload_n 0, 1) := by decide +kernel
theorem dX3_removeRow_26 : decode cX3_removeRow 26 = .ok (.getfield 19, 3) := by decide +kernel
theorem dX3_removeRow_29 : decode cX3_removeRow 29 = .ok (.iload_n 2, 1) := by decide +kernel
theorem dX3_removeRow_30 : decode cX3_removeRow 30 = .ok (.aload_n 0, 1) := by decide +kernel
theorem dX3_removeRow_31 : decode cX3_removeRow 31 = .ok (.getfield 19, 3) := by decide +kernel
theorem dX3_removeRow_34 : decode cX3_removeRow 34 = .ok (.iload_n 2, 1) := by decide +kernel
theorem dX3_removeRow_35 : decode cX3_removeRow 35 = .ok (.aload_n 0, 1) := by decide +kernel
theorem dX3_removeRow_36 : decode cX3_removeRow 36 = .ok (.getfield 7, 3) := by decide +kernel
theorem dX3_removeRow_39 : decode cX3_removeRow 39 = .ok (.iadd, 1) := by decide +kernel
theorem dX3_removeRow_40 : decode cX3_removeRow 40 = .ok (.iaload, 1) := by decide +kernel
theorem dX3_removeRow_41 : decode cX3_removeRow 41 = .ok (.iastore, 1) := by decide +kernel
theorem dX3_removeRow_42 : decode cX3_removeRow 42 = .ok (.iinc 2 1, 3) := by decide +kernel
theorem dX3_removeRow_45 : decode cX3_removeRow 45 = .ok (.goto (-38), 3) := by decide +kernel
theorem dX3_removeRow_48 : decode cX3_removeRow 48 = .ok (.return_, 1) := by decide +kernel
theorem dX3_insertRow_0 : decode cX3_insertRow 0 = .ok (.iload_n 1, 1) := by decide +kernel
theorem dX3_insertRow_1 : decode cX3_insertRow 1 = .ok (.iconst 1, 1) := by decide +kernel
theorem dX3_insertRow_2 : decode cX3_insertRow 2 = .ok (.iadd, 1) := by decide +kernel
theorem dX3_insertRow_3 : decode cX3_insertRow 3 = .ok (.aload_n 0, 1) := by decide +kernel
theorem dX3_insertRow_4 : decode cX3_insertRow 4 = .ok (.getfield 7, 3) := by decide +kernel
theorem dX3_insertRow_7 : decode cX3_insertRow 7 = .ok (.imul, 1) := by decide +kernel
theorem dX3_insertRow_8 : decode cX3_insertRow 8 = .ok (.istore_n 2, 1) := by decide +kernel
theorem dX3_insertRow_9 : decode cX3_insertRow 9 = .ok (.aload_n 0, 1) := by decide +kernel
theorem dX3_insertRow_10 : decode cX3_insertRow 10 = .ok (.getfield 19, 3) := by decide +kernel
theorem dX3_insertRow_13 : decode cX3_insertRow 13 = .ok (.arraylength, 1) := by decide +kernel
theorem dX3_insertRow_14 : decode cX3_insertRow 14 = .ok (.iconst 1, 1) := by decide +kernel
theorem dX3_insertRow_15 : decode cX3_insertRow 15 = .ok (.isub, 1) := by decide +kernel
theorem dX3_insertRow_16 : decode cX3_insertRow 16 = .ok (.istore_n 3, 1) := by decide +kernel
theorem dX3_insertRow_17 : decode cX3_insertRow 17 = .ok (.iload_n 3, 1) := by decide +kernel
theorem dX3_insertRow_18 : decode cX3_insertRow 18 = .ok (.iload_n 2, 1) := by decide +kernel
theorem dX3_insertRow_19 : decode cX3_insertRow 19 = .ok (.if_icmp .lt 34, 3) := by decide +kernel
theorem dX3_insertRow_22 : decode cX3_insertRow 22 = .ok (.iload_n 3, 1) := by decide +kernel
theorem dX3_insertRow_23 : decode cX3_insertRow 23 = .ok (.aload_n 0, 1) := by decide +kernel
theorem dX3_insertRow_24 : decode cX3_insertRow 24 = .ok (.getfield 7, 3) := by decide +kernel
theorem dX3_insertRow_27 : decode cX3_insertRow 27 = .ok (.if_icmp .lt 26, 3) := by decide +kernel
theorem dX3_insertRow_30 : decode cX3_insertRow 30 = .ok (.aload_n 0, 1) := by decide +kernel
theorem dX3_insertRow_31 : decode cX3_insertRow 31 = .ok (.getfield 19, 3) := by decide +kernel
theorem dX3_insertRow_34 : decode cX3_insertRow 34 = .ok (.iload_n 3, 1) := by decide +kernel
theorem dX3_insertRow_35 : decode cX3_insertRow 35 = .ok (.aload_n 0, 1) := by decide +kernel
theorem dX3_insertRow_36 : decode cX3_insertRow 36 = .ok (.getfield 19, 3) := by decide +kernel
theorem dX3_insertRow_39 : decode cX3_insertRow 39 = .ok (.iload_n 3, 1) := by decide +kernel
theorem dX3_insertRow_40 : decode cX3_insertRow 40 = .ok (.aload_n 0, 1) := by decide +kernel
theorem dX3_insertRow_41 : decode cX3_insertRow 41 = .ok (.getfield 7, 3) := by decide +kernel
theorem dX3_insertRow_44 : decode cX3_insertRow 44 = .ok (.isub, 1) := by decide +kernel
theorem dX3_insertRow_45 : decode cX3_insertRow 45 = .ok (.iaload, 1) := by decide +kernel
theorem dX3_insertRow_46 : decode cX3_insertRow 46 = .ok (.iastore, 1) := by decide +kernel
theorem dX3_insertRow_47 : decode cX3_insertRow 47 = .ok (.iinc 3 (-1), 3) := by decide +kernel
theorem dX3_insertRow_50 : decode cX3_insertRow 50 = .ok (.goto (-33), 3) := by decide +kernel
theorem dX3_insertRow_53 : decode cX3_insertRow 53 = .ok (.return_, 1) := by decide +kernel
theorem dX3_copyFrom_0 : decode cX3_copyFrom 0 = .ok (.aload_n 1, 1) := by decide +kernel
theorem dX3_copyFrom_1 : decode cX3_copyFrom 1 = .ok (.getfield 19, 3) := by decide +kernel
theorem dX3_copyFrom_4 : decode cX3_copyFrom 4 = .ok (.iconst 0, 1) := by decide +kernel
theorem dX3_copyFrom_5 : decode cX3_copyFrom 5 = .ok (.aload_n 0, 1) := by decide +kernel
theorem dX3_copyFrom_6 : decode cX3_copyFrom 6 = .ok (.getfield 19, 3) := by decide +kernel
theorem dX3_copyFrom_9 : decode cX3_copyFrom 9 = .ok (.iconst 0, 1) := by decide +kernel
theorem dX3_copyFrom_10 : decode cX3_copyFrom 10 = .ok (.aload_n 1, 1) := by decide +kernel
theorem dX3_copyFrom_11 : decode cX3_copyFrom 11 = .ok (.getfield 19, 3) := by decide +kernel
theorem dX3_copyFrom_14 : decode cX3_copyFrom 14 = .ok (.arraylength, 1) := by decide +kernel
theorem dX3_copyFrom_15 : decode cX3_copyFrom 15 = .ok (.aload_n 0, 1) := by decide +kernel
theorem dX3_copyFrom_16 : decode cX3_copyFrom 16 = .ok (.getfield 19, 3) := by decide +kernel
theorem dX3_copyFrom_19 : decode cX3_copyFrom 19 = .ok (.arraylength, 1) := by decide +kernel
theorem dX3_copyFrom_20 : decode cX3_copyFrom 20 = .ok (.invokestatic 23, 3) := by decide +kernel
theorem dX3_copyFrom_23 : decode cX3_copyFrom 23 = .ok (.invokestatic 26, 3) := by decide +kernel
theorem dX3_copyFrom_26 : decode cX3_copyFrom 26 = .ok (.return_, 1) := by decide +kernel
theorem dX4_init_0 : decode cX4_init 0 = .ok (.aload_n 0, 1) := by decide +kernel
theorem dX4_init_1 : decode cX4_init 1 = .ok (.invokespecial 3, 3) := by decide +kernel
theorem dX4_init_4 : decode cX4_init 4 = .ok (.aload_n 0, 1) := by decide +kernel
theorem dX4_init_5 : decode cX4_init 5 = .ok (.bipush 60, 2) := by decide +kernel
theorem dX4_init_7 : decode cX4_init 7 = .ok (.newarray .int, 2) := by decide +kernel
theorem dX4_init_9 : decode cX4_init 9 = .ok (.putfield 9, 3) := by decide +kernel
theorem dX4_init_12 : decode cX4_init 12 = .ok (.aload_n 0, 1) := by decide +kernel
theorem dX4_init_13 : decode cX4_init 13 = .ok (.new 15, 3) := by decide +kernel
theorem dX4_init_16 : decode cX4_init 16 = .ok (.dup, 1) := by decide +kernel
theorem dX4_init_17 : decode cX4_init 17 = .ok (.invokespecial 17, 3) := by decide +kernel
theorem dX4_init_20 : decode cX4_init 20 = .ok (.putfield 18, 3) := by decide +kernel
theorem dX4_init_23 : decode cX4_init 23 = .ok (.return_, 1) := by decide +kernel
theorem dX4_length_0 : decode cX4_length 0 = .ok (.aload_n 0, 1) := by decide +kernel
theorem dX4_length_1 : decode cX4_length 1 = .ok (.getfield 22, 3) := by decide +kernel
theorem dX4_length_4 : decode cX4_length 4 = .ok (.ireturn, 1) := by decide +kernel
theorem dX4_codeAt_0 : decode cX4_codeAt 0 = .ok (.iload_n 1, 1) := by decide +kernel
theorem dX4_codeAt_1 : decode cX4_codeAt 1 = .ok (.ifCond .lt 21, 3) := by decide +kernel
theorem dX4_codeAt_4 : decode cX4_codeAt 4 = .ok (.iload_n 1, 1) := by decide +kernel
theorem dX4_codeAt_5 : decode cX4_codeAt 5 = .ok (.aload_n 0, 1) := by decide +kernel
theorem dX4_codeAt_6 : decode cX4_codeAt 6 = .ok (.getfield 9, 3) := by decide +kernel
theorem dX4_codeAt_9 : decode cX4_codeAt 9 = .ok (.arraylength, 1) := by decide +kernel
theorem dX4_codeAt_10 : decode cX4_codeAt 10 = .ok (.if_icmp .ge 12, 3) := by decide +kernel
theorem dX4_codeAt_13 : decode cX4_codeAt 13 = .ok (.aload_n 0, 1) := by decide +kernel
theorem dX4_codeAt_14 : decode cX4_codeAt 14 = .ok (.getfield 9, 3) := by decide +kernel
theorem dX4_codeAt_17 : decode cX4_codeAt 17 = .ok (.iload_n 1, 1) := by decide +kernel
theorem dX4_codeAt_18 : decode cX4_codeAt 18 = .ok (.iaload, 1) := by decide +kernel
theorem dX4_codeAt_19 : decode cX4_codeAt 19 = .ok (.goto 4, 3) := by decide +kernel
theorem dX4_codeAt_22 : decode cX4_codeAt 22 = .ok (.iconst 0, 1) := by decide +kernel
theorem dX4_codeAt_23 : decode cX4_codeAt 23 = .ok (.ireturn, 1) := by decide +kernel
theorem dX4_add_0 : decode cX4_add 0 = .ok (.aload_n 0, 1) := by decide +kernel
theorem dX4_add_1 : decode cX4_add 1 = .ok (.getfield 22, 3) := by decide +kernel
theorem dX4_add_4 : decode cX4_add 4 = .ok (.ifCond .lt 35, 3) := by decide +kernel
theorem dX4_add_7 : decode cX4_add 7 = .ok (.aload_n 0, 1) := by decide +kernel
theorem dX4_add_8 : decode cX4_add 8 = .ok (.getfield 22, 3) := by decide +kernel
theorem dX4_add_11 : decode cX4_add 11 = .ok (.aload_n 0, 1) := by decide +kernel
theorem dX4_add_12 : decode cX4_add 12 = .ok (.getfield 9, 3) := by decide +kernel
theorem dX4_add_15 : decode cX4_add 15 = .ok (.arraylength, 1) := by decide +kernel
theorem dX4_add_16 : decode cX4_add 16 = .ok (.if_icmp .ge 23, 3) := by decide +kernel
theorem dX4_add_19 : decode cX4_add 19 = .ok (.aload_n 0, 1) := by decide +kernel
theorem dX4_add_20 : decode cX4_add 20 = .ok (.getfield 9, 3) := by decide +kernel
theorem dX4_add_23 : decode cX4_add 23 = .ok (.aload_n 0, 1) := by decide +kernel
theorem dX4_add_24 : decode cX4_add 24 = .ok (.getfield 22, 3) := by decide +kernel
theorem dX4_add_27 : decode cX4_add 27 = .ok (.iload_n 1, 1) := by decide +kernel
theorem dX4_add_28 : decode cX4_add 28 = .ok (.iastore, 1) := by decide +kernel
theorem dX4_add_29 : decode cX4_add 29 = .ok (.aload_n 0, 1) := by decide +kernel
theorem dX4_add_30 : decode cX4_add 30 = .ok (.dup, 1) := by decide +kernel
theorem dX4_add_31 : decode cX4_add 31 = .ok (.getfield 22, 3) := by decide +kernel
theorem dX4_add_34 : decode cX4_add 34 = .ok (.iconst 1, 1) := by decide +kernel
theorem dX4_add_35 : decode cX4_add 35 = .ok (.iadd, 1) := by decide +kernel
theorem dX4_add_36 : decode cX4_add 36 = .ok (.putfield 22, 3) := by decide +kernel
theorem dX4_add_39 : decode cX4_add 39 = .ok (.return_, 1) := by decide +kernel
theorem dX4_wipe_0 : decode cX4_wipe 0 = .ok (.aload_n 0, 1) := by decide +kernel
theorem dX4_wipe_1 : decode cX4_wipe 1 = .ok (.iconst 0, 1) := by decide +kernel
theorem dX4_wipe_2 : decode cX4_wipe 2 = .ok (.putfield 22, 3) := by decide +kernel
theorem dX4_wipe_5 : decode cX4_wipe 5 = .ok (.return_, 1) := by decide +kernel
theorem dX4_firstFault_0 : decode cX4_firstFault 0 = .ok (.aload_n 0, 1) := by decide +kernel
theorem dX4_firstFault_1 : decode cX4_firstFault 1 = .ok (.getfield 18, 3) := by decide +kernel
theorem dX4_firstFault_4 : decode cX4_firstFault 4 = .ok (.invokevirtual 26, 3) := by decide +kernel
theorem dX4_firstFault_7 : decode cX4_firstFault 7 = .ok (.iconst 0, 1) := by decide +kernel
theorem dX4_firstFault_8 : decode cX4_firstFault 8 = .ok (.istore_n 1, 1) := by decide +kernel
theorem dX4_firstFault_9 : decode cX4_firstFault 9 = .ok (.iload_n 1, 1) := by decide +kernel
theorem dX4_firstFault_10 : decode cX4_firstFault 10 = .ok (.aload_n 0, 1) := by decide +kernel
theorem dX4_firstFault_11 : decode cX4_firstFault 11 = .ok (.getfield 22, 3) := by decide +kernel
theorem dX4_firstFault_14 : decode cX4_firstFault 14 = .ok (.if_icmp .ge 26, 3) := by decide +kernel
theorem dX4_firstFault_17 : decode cX4_firstFault 17 = .ok (.aload_n 0, 1) := by decide +kernel
theorem dX4_firstFault_18 : decode cX4_firstFault 18 = .ok (.getfield 18, 3) := by decide +kernel
theorem dX4_firstFault_21 : decode cX4_firstFault 21 = .ok (.aload_n 0, 1) := by decide +kernel
theorem dX4_firstFault_22 : decode cX4_firstFault 22 = .ok (.iload_n 1, 1) := by decide +kernel
theorem dX4_firstFault_23 : decode cX4_firstFault 23 = .ok (.invokevirtual 29, 3) := by decide +kernel
theorem dX4_firstFault_26 : decode cX4_firstFault 26 = .ok (.invokevirtual 33, 3) := by decide +kernel
theorem dX4_firstFault_29 : decode cX4_firstFault 29 = .ok (.ifCond .ne 5, 3) := by decide +kernel
theorem dX4_firstFault_32 : decode cX4_firstFault 32 = .ok (.iload_n 1, 1) := by decide +kernel
theorem dX4_firstFault_33 : decode cX4_firstFault 33 = .ok (.ireturn, 1) := by decide +kernel
theorem dX4_firstFault_34 : decode cX4_firstFault 34 = .ok (.iinc 1 1, 3) := by decide +kernel
theorem dX4_firstFault_37 : decode cX4_firstFault 37 = .ok (.goto (-28), 3) := by decide +kernel
theorem dX4_firstFault_40 : decode cX4_firstFault 40 = .ok (.aload_n 0, 1) := by decide +kernel
theorem dX4_firstFault_41 : decode cX4_firstFault 41 = .ok (.getfield 22, 3) := by decide +kernel
theorem dX4_firstFault_44 : decode cX4_firstFault 44 = .ok (.ireturn, 1) := by decide +kernel
theorem dX4_isWholePlan_0 : decode cX4_isWholePlan 0 = .ok (.aload_n 0, 1) := by decide +kernel
theorem dX4_isWholePlan_1 : decode cX4_isWholePlan 1 = .ok (.invokevirtual 37, 3) := by decide +kernel
theorem dX4_isWholePlan_4 : decode cX4_isWholePlan 4 = .ok (.aload_n 0, 1) := by decide +kernel
theorem dX4_isWholePlan_5 : decode cX4_isWholePlan 5 = .ok (.getfield 22, 3) := by decide +kernel
theorem dX4_isWholePlan_8 : decode cX4_isWholePlan 8 = .ok (.if_icmp .ne 17, 3) := by decide +kernel
theorem dX4_isWholePlan_11 : decode cX4_isWholePlan 11 = .ok (.aload_n 0, 1) := by decide +kernel
theorem dX4_isWholePlan_12 : decode cX4_isWholePlan 12 = .ok (.getfield 18, 3) := by decide +kernel
theorem dX4_isWholePlan_15 : decode cX4_isWholePlan 15 = .ok (.invokevirtual 41, 3) := by decide +kernel
theorem dX4_isWholePlan_18 : decode cX4_isWholePlan 18 = .ok (.ifCond .eq 7, 3) := by decide +kernel
theorem dX4_isWholePlan_21 : decode cX4_isWholePlan 21 = .ok (.iconst 1, 1) := by decide +kernel
theorem dX4_isWholePlan_22 : decode cX4_isWholePlan 22 = .ok (.goto 4, 3) := by decide +kernel
theorem dX4_isWholePlan_25 : decode cX4_isWholePlan 25 = .ok (.iconst 0, 1) := by decide +kernel
theorem dX4_isWholePlan_26 : decode cX4_isWholePlan 26 = .ok (.ireturn, 1) := by decide +kernel
theorem dX4_projectsInPlan_0 : decode cX4_projectsInPlan 0 = .ok (.iconst 1, 1) := by decide +kernel
theorem dX4_projectsInPlan_1 : decode cX4_projectsInPlan 1 = .ok (.istore_n 1, 1) := by decide +kernel
theorem dX4_projectsInPlan_2 : decode cX4_projectsInPlan 2 = .ok (.iconst 0, 1) := by decide +kernel
theorem dX4_projectsInPlan_3 : decode cX4_projectsInPlan 3 = .ok (.istore_n 2, 1) := by decide +kernel
theorem dX4_projectsInPlan_4 : decode cX4_projectsInPlan 4 = .ok (.iload_n 2, 1) := by decide +kernel
theorem dX4_projectsInPlan_5 : decode cX4_projectsInPlan 5 = .ok (.aload_n 0, 1) := by decide +kernel
theorem dX4_projectsInPlan_6 : decode cX4_projectsInPlan 6 = .ok (.getfield 22, 3) := by decide +kernel
theorem dX4_projectsInPlan_9 : decode cX4_projectsInPlan 9 = .ok (.if_icmp .ge 22, 3) := by decide +kernel
theorem dX4_projectsInPlan_12 : decode cX4_projectsInPlan 12 = .ok (.aload_n 0, 1) := by decide +kernel
theorem dX4_projectsInPlan_13 : decode cX4_projectsInPlan 13 = .ok (.iload_n 2, 1) := by decide +kernel
theorem dX4_projectsInPlan_14 : decode cX4_projectsInPlan 14 = .ok (.invokevirtual 29, 3) := by decide +kernel
theorem dX4_projectsInPlan_17 : decode cX4_projectsInPlan 17 = .ok (.bipush 59, 2) := by decide +kernel
theorem dX4_projectsInPlan_19 : decode cX4_projectsInPlan 19 = .ok (.if_icmp .ne 6, 3) := by decide +kernel
theorem dX4_projectsInPlan_22 : decode cX4_projectsInPlan 22 = .ok (.iinc 1 1, 3) := by decide +kernel
theorem dX4_projectsInPlan_25 : decode cX4_projectsInPlan 25 = .ok (.iinc 2 1, 3) := by decide +kernel
theorem dX4_projectsInPlan_28 : decode cX4_projectsInPlan 28 = .ok (.goto (-24), 3) := by decide +kernel
theorem dX4_projectsInPlan_31 : decode cX4_projectsInPlan 31 = .ok (.iload_n 1, 1) := by decide +kernel
theorem dX4_projectsInPlan_32 : decode cX4_projectsInPlan 32 = .ok (.ireturn, 1) := by decide +kernel
theorem dX5_init_0 : decode cX5_init 0 = .ok (.aload_n 0, 1) := by decide +kernel
theorem dX5_init_1 : decode cX5_init 1 = .ok (.invokespecial 3, 3) := by decide +kernel
theorem dX5_init_4 : decode cX5_init 4 = .ok (.aload_n 0, 1) := by decide +kernel
theorem dX5_init_5 : decode cX5_init 5 = .ok (.new 9, 3) := by decide +kernel
theorem dX5_init_8 : decode cX5_init 8 = .ok (.dup, 1) := by decide +kernel
theorem dX5_init_9 : decode cX5_init 9 = .ok (.invokespecial 11, 3) := by decide +kernel
theorem dX5_init_12 : decode cX5_init 12 = .ok (.putfield 12, 3) := by decide +kernel
theorem dX5_init_15 : decode cX5_init 15 = .ok (.aload_n 0, 1) := by decide +kernel
theorem dX5_init_16 : decode cX5_init 16 = .ok (.new 9, 3) := by decide +kernel
theorem dX5_init_19 : decode cX5_init 19 = .ok (.dup, 1) := by decide +kernel
theorem dX5_init_20 : decode cX5_init 20 = .ok (.invokespecial 11, 3) := by decide +kernel
theorem dX5_init_23 : decode cX5_init 23 = .ok (.putfield 16, 3) := by decide +kernel
theorem dX5_init_26 : decode cX5_init 26 = .ok (.aload_n 0, 1) := by decide +kernel
theorem dX5_init_27 : decode cX5_init 27 = .ok (.new 19, 3) := by decide +kernel
theorem dX5_init_30 : decode cX5_init 30 = .ok (.dup, 1) := by decide +kernel
theorem dX5_init_31 : decode cX5_init 31 = .ok (.invokespecial 21, 3) := by decide +kernel
theorem dX5_init_34 : decode cX5_init 34 = .ok (.putfield 22, 3) := by decide +kernel
theorem dX5_init_37 : decode cX5_init 37 = .ok (.aload_n 0, 1) := by decide +kernel
theorem dX5_init_38 : decode cX5_init 38 = .ok (.new 26, 3) := by decide +kernel
theorem dX5_init_41 : decode cX5_init 41 = .ok (.dup, 1) := by decide +kernel
theorem dX5_init_42 : decode cX5_init 42 = .ok (.invokespecial 28, 3) := by decide +kernel
theorem dX5_init_45 : decode cX5_init 45 = .ok (.putfield 29, 3) := by decide +kernel
theorem dX5_init_48 : decode cX5_init 48 = .ok (.return_, 1) := by decide +kernel
theorem dX5_open_0 : decode cX5_open 0 = .ok (.iload_n 1, 1) := by decide +kernel
theorem dX5_open_1 : decode cX5_open 1 = .ok (.iconst 1, 1) := by decide +kernel
theorem dX5_open_2 : decode cX5_open 2 = .ok (.bipush 9, 2) := by decide +kernel
theorem dX5_open_4 : decode cX5_open 4 = .ok (.invokestatic 33, 3) := by decide +kernel
theorem dX5_open_7 : decode cX5_open 7 = .ok (.ifCond .ne 13, 3) := by decide +kernel
theorem dX5_open_10 : decode cX5_open 10 = .ok (.iload_n 2, 1) := by decide +kernel
theorem dX5_open_11 : decode cX5_open 11 = .ok (.iconst 0, 1) := by decide +kernel
theorem dX5_open_12 : decode cX5_open 12 = .ok (.bipush 99, 2) := by decide +kernel
theorem dX5_open_14 : decode cX5_open 14 = .ok (.invokestatic 33, 3) := by decide +kernel
theorem dX5_open_17 : decode cX5_open 17 = .ok (.ifCond .eq 13, 3) := by decide +kernel
theorem dX5_open_20 : decode cX5_open 20 = .ok (.new 37, 3) := by decide +kernel
theorem dX5_open_23 : decode cX5_open 23 = .ok (.dup, 1) := by decide +kernel
theorem dX5_open_24 : decode cX5_open 24 = .ok (.ldc 39, 2) := by decide +kernel
theorem dX5_open_26 : decode cX5_open 26 = .ok (.invokespecial 41, 3) := by decide +kernel
theorem dX5_open_29 : decode cX5_open 29 = .ok (.athrow, 1) := by decide +kernel
theorem dX5_open_30 : decode cX5_open 30 = .ok (.aload_n 0, 1) := by decide +kernel
theorem dX5_open_31 : decode cX5_open 31 = .ok (.getfield 12, 3) := by decide +kernel
theorem dX5_open_34 : decode cX5_open 34 = .ok (.invokevirtual 44, 3) := by decide +kernel
theorem dX5_open_37 : decode cX5_open 37 = .ok (.bipush 6, 2) := by decide +kernel
theorem dX5_open_39 : decode cX5_open 39 = .ok (.if_icmp .lt 13, 3) := by decide +kernel
theorem dX5_open_42 : decode cX5_open 42 = .ok (.new 48, 3) := by decide +kernel
theorem dX5_open_45 : decode cX5_open 45 = .ok (.dup, 1) := by decide +kernel
theorem dX5_open_46 : decode cX5_open 46 = .ok (.ldc 50, 2) := by decide +kernel
theorem dX5_open_48 : decode cX5_open 48 = .ok (.invokespecial 52, 3) := by decide +kernel
theorem dX5_open_51 : decode cX5_open 51 = .ok (.athrow, 1) := by decide +kernel
theorem dX5_open_52 : decode cX5_open 52 = .ok (.aload_n 0, 1) := by decide +kernel
theorem dX5_open_53 : decode cX5_open 53 = .ok (.getfield 22, 3) := by decide +kernel
theorem dX5_open_56 : decode cX5_open 56 = .ok (.aload_n 0, 1) := by decide +kernel
theorem dX5_open_57 : decode cX5_open 57 = .ok (.getfield 12, 3) := by decide +kernel
theorem dX5_open_60 : decode cX5_open 60 = .ok (.invokevirtual 53, 3) := by decide +kernel
theorem dX5_open_63 : decode cX5_open 63 = .ok (.aload_n 0, 1) := by decide +kernel
theorem dX5_open_64 : decode cX5_open 64 = .ok (.getfield 12, 3) := by decide +kernel
theorem dX5_open_67 : decode cX5_open 67 = .ok (.iload_n 1, 1) := by decide +kernel
theorem dX5_open_68 : decode cX5_open 68 = .ok (.iload_n 2, 1) := by decide +kernel
theorem dX5_open_69 : decode cX5_open 69 = .ok (.invokevirtual 57, 3) := by decide +kernel
theorem dX5_open_72 : decode cX5_open 72 = .ok (.ireturn, 1) := by decide +kernel
theorem dX5_plan_0 : decode cX5_plan 0 = .ok (.aload_n 0, 1) := by decide +kernel
theorem dX5_plan_1 : decode cX5_plan 1 = .ok (.iload_n 1, 1) := by decide +kernel
theorem dX5_plan_2 : decode cX5_plan 2 = .ok (.invokevirtual 61, 3) := by decide +kernel
theorem dX5_plan_5 : decode cX5_plan 5 = .ok (.iload_n 2, 1) := by decide +kernel
theorem dX5_plan_6 : decode cX5_plan 6 = .ok (.iconst 1, 1) := by decide +kernel
theorem dX5_plan_7 : decode cX5_plan 7 = .ok (.bipush 60, 2) := by decide +kernel
theorem dX5_plan_9 : decode cX5_plan 9 = .ok (.invokestatic 33, 3) := by decide +kernel
theorem dX5_plan_12 : decode cX5_plan 12 = .ok (.ifCond .eq 13, 3) := by decide +kernel
theorem dX5_plan_15 : decode cX5_plan 15 = .ok (.new 37, 3) := by decide +kernel
theorem dX5_plan_18 : decode cX5_plan 18 = .ok (.dup, 1) := by decide +kernel
theorem dX5_plan_19 : decode cX5_plan 19 = .ok (.ldc 65, 2) := by decide +kernel
theorem dX5_plan_21 : decode cX5_plan 21 = .ok (.invokespecial 41, 3) := by decide +kernel
theorem dX5_plan_24 : decode cX5_plan 24 = .ok (.athrow, 1) := by decide +kernel
theorem dX5_plan_25 : decode cX5_plan 25 = .ok (.aload_n 0, 1) := by decide +kernel
theorem dX5_plan_26 : decode cX5_plan 26 = .ok (.getfield 12, 3) := by decide +kernel
theorem dX5_plan_29 : decode cX5_plan 29 = .ok (.iload_n 1, 1) := by decide +kernel
theorem dX5_plan_30 : decode cX5_plan 30 = .ok (.invokevirtual 67, 3) := by decide +kernel
theorem dX5_plan_33 : decode cX5_plan 33 = .ok (.ifCond .eq 18, 3) := by decide +kernel
theorem dX5_plan_36 : decode cX5_plan 36 = .ok (.aload_n 0, 1) := by decide +kernel
theorem dX5_plan_37 : decode cX5_plan 37 = .ok (.getfield 12, 3) := by decide +kernel
theorem dX5_plan_40 : decode cX5_plan 40 = .ok (.iload_n 1, 1) := by decide +kernel
theorem dX5_plan_41 : decode cX5_plan 41 = .ok (.bipush 7, 2) := by decide +kernel
theorem dX5_plan_43 : decode cX5_plan 43 = .ok (.invokevirtual 71, 3) := by decide +kernel
theorem dX5_plan_46 : decode cX5_plan 46 = .ok (.bipush 8, 2) := by decide +kernel
theorem dX5_plan_48 : decode cX5_plan 48 = .ok (.if_icmp .lt 13, 3) := by decide +kernel
theorem dX5_plan_51 : decode cX5_plan 51 = .ok (.new 48, 3) := by decide +kernel
theorem dX5_plan_54 : decode cX5_plan 54 = .ok (.dup, 1) := by decide +kernel
theorem dX5_plan_55 : decode cX5_plan 55 = .ok (.ldc 74, 2) := by decide +kernel
theorem dX5_plan_57 : decode cX5_plan 57 = .ok (.invokespecial 52, 3) := by decide +kernel
theorem dX5_plan_60 : decode cX5_plan 60 = .ok (.athrow, 1) := by decide +kernel
theorem dX5_plan_61 : decode cX5_plan 61 = .ok (.aload_n 0, 1) := by decide +kernel
theorem dX5_plan_62 : decode cX5_plan 62 = .ok (.getfield 22, 3) := by decide +kernel
theorem dX5_plan_65 : decode cX5_plan 65 = .ok (.aload_n 0, 1) := by decide +kernel
theorem dX5_plan_66 : decode cX5_plan 66 = .ok (.getfield 12, 3) := by decide +kernel
theorem dX5_plan_69 : decode cX5_plan 69 = .ok (.invokevirtual 53, 3) := by decide +kernel
theorem dX5_plan_72 : decode cX5_plan 72 = .ok (.aload_n 0, 1) := by decide +kernel
theorem dX5_plan_73 : decode cX5_plan 73 = .ok (.getfield 12, 3) := by decide +kernel
theorem dX5_plan_76 : decode cX5_plan 76 = .ok (.iload_n 1, 1) := by decide +kernel
theorem dX5_plan_77 : decode cX5_plan 77 = .ok (.iload_n 2, 1) := by decide +kernel
theorem dX5_plan_78 : decode cX5_plan 78 = .ok (.invokevirtual 76, 3) := by decide +kernel
theorem dX5_plan_81 : decode cX5_plan 81 = .ok (.ireturn, 1) := by decide +kernel
theorem dX5_rank_0 : decode cX5_rank 0 = .ok (.aload_n 0, 1) := by decide +kernel
theorem dX5_rank_1 : decode cX5_rank 1 = .ok (.iload_n 1, 1) := by decide +kernel
theorem dX5_rank_2 : decode cX5_rank 2 = .ok (.invokevirtual 61, 3) := by decide +kernel
theorem dX5_rank_5 : decode cX5_rank 5 = .ok (.iload_n 2, 1) := by decide +kernel
theorem dX5_rank_6 : decode cX5_rank 6 = .ok (.iconst 1, 1) := by decide +kernel
theorem dX5_rank_7 : decode cX5_rank 7 = .ok (.bipush 9, 2) := by decide +kernel
theorem dX5_rank_9 : decode cX5_rank 9 = .ok (.invokestatic 33, 3) := by decide +kernel
theorem dX5_rank_12 : decode cX5_rank 12 = .ok (.ifCond .eq 13, 3) := by decide +kernel
theorem dX5_rank_15 : decode cX5_rank 15 = .ok (.new 37, 3) := by decide +kernel
theorem dX5_rank_18 : decode cX5_rank 18 = .ok (.dup, 1) := by decide +kernel
theorem dX5_rank_19 : decode cX5_rank 19 = .ok (.ldc 79, 2) := by decide +kernel
theorem dX5_rank_21 : decode cX5_rank 21 = .ok (.invokespecial 41, 3) := by decide +kernel
theorem dX5_rank_24 : decode cX5_rank 24 = .ok (.athrow, 1) := by decide +kernel
theorem dX5_rank_25 : decode cX5_rank 25 = .ok (.aload_n 0, 1) := by decide +kernel
theorem dX5_rank_26 : decode cX5_rank 26 = .ok (.getfield 22, 3) := by decide +kernel
theorem dX5_rank_29 : decode cX5_rank 29 = .ok (.aload_n 0, 1) := by decide +kernel
theorem dX5_rank_30 : decode cX5_rank 30 = .ok (.getfield 12, 3) := by decide +kernel
theorem dX5_rank_33 : decode cX5_rank 33 = .ok (.invokevirtual 53, 3) := by decide +kernel
theorem dX5_rank_36 : decode cX5_rank 36 = .ok (.aload_n 0, 1) := by decide +kernel
theorem dX5_rank_37 : decode cX5_rank 37 = .ok (.getfield 12, 3) := by decide +kernel
theorem dX5_rank_40 : decode cX5_rank 40 = .ok (.iload_n 1, 1) := by decide +kernel
theorem dX5_rank_41 : decode cX5_rank 41 = .ok (.iload_n 2, 1) := by decide +kernel
theorem dX5_rank_42 : decode cX5_rank 42 = .ok (.invokevirtual 81, 3) := by decide +kernel
theorem dX5_rank_45 : decode cX5_rank 45 = .ok (.ireturn, 1) := by decide +kernel
theorem dX5_set_0 : decode cX5_set 0 = .ok (.iload_n 1, 1) := by decide +kernel
theorem dX5_set_1 : decode cX5_set 1 = .ok (.invokestatic 84, 3) := by decide +kernel
theorem dX5_set_4 : decode cX5_set 4 = .ok (.iload_n 2, 1) := by decide +kernel
theorem dX5_set_5 : decode cX5_set 5 = .ok (.iconst 0, 1) := by decide +kernel
theorem dX5_set_6 : decode cX5_set 6 = .ok (.iload_n 1, 1) := by decide +kernel
theorem dX5_set_7 : decode cX5_set 7 = .ok (.invokestatic 87, 3) := by decide +kernel
theorem dX5_set_10 : decode cX5_set 10 = .ok (.invokestatic 33, 3) := by decide +kernel
theorem dX5_set_13 : decode cX5_set 13 = .ok (.ifCond .eq 13, 3) := by decide +kernel
theorem dX5_set_16 : decode cX5_set 16 = .ok (.new 37, 3) := by decide +kernel
theorem dX5_set_19 : decode cX5_set 19 = .ok (.dup, 1) := by decide +kernel
theorem dX5_set_20 : decode cX5_set 20 = .ok (.ldc 91, 2) := by decide +kernel
theorem dX5_set_22 : decode cX5_set 22 = .ok (.invokespecial 41, 3) := by decide +kernel
theorem dX5_set_25 : decode cX5_set 25 = .ok (.athrow, 1) := by decide +kernel
theorem dX5_set_26 : decode cX5_set 26 = .ok (.aload_n 0, 1) := by decide +kernel
theorem dX5_set_27 : decode cX5_set 27 = .ok (.getfield 22, 3) := by decide +kernel
theorem dX5_set_30 : decode cX5_set 30 = .ok (.aload_n 0, 1) := by decide +kernel
theorem dX5_set_31 : decode cX5_set 31 = .ok (.getfield 12, 3) := by decide +kernel
theorem dX5_set_34 : decode cX5_set 34 = .ok (.invokevirtual 53, 3) := by decide +kernel
theorem dX5_set_37 : decode cX5_set 37 = .ok (.aload_n 0, 1) := by decide +kernel
theorem dX5_set_38 : decode cX5_set 38 = .ok (.getfield 12, 3) := by decide +kernel
theorem dX5_set_41 : decode cX5_set 41 = .ok (.iload_n 1, 1) := by decide +kernel
theorem dX5_set_42 : decode cX5_set 42 = .ok (.iload_n 2, 1) := by decide +kernel
theorem dX5_set_43 : decode cX5_set 43 = .ok (.invokevirtual 93, 3) := by decide +kernel
theorem dX5_set_46 : decode cX5_set 46 = .ok (.ireturn, 1) := by decide +kernel
theorem dX5_done_0 : decode cX5_done 0 = .ok (.aload_n 0, 1) := by decide +kernel
theorem dX5_done_1 : decode cX5_done 1 = .ok (.iload_n 1, 1) := by decide +kernel
theorem dX5_done_2 : decode cX5_done 2 = .ok (.invokevirtual 61, 3) := by decide +kernel
theorem dX5_done_5 : decode cX5_done 5 = .ok (.iload_n 2, 1) := by decide +kernel
theorem dX5_done_6 : decode cX5_done 6 = .ok (.invokestatic 96, 3) := by decide +kernel
theorem dX5_done_9 : decode cX5_done 9 = .ok (.aload_n 0, 1) := by decide +kernel
theorem dX5_done_10 : decode cX5_done 10 = .ok (.getfield 12, 3) := by decide +kernel
theorem dX5_done_13 : decode cX5_done 13 = .ok (.iload_n 1, 1) := by decide +kernel
theorem dX5_done_14 : decode cX5_done 14 = .ok (.invokevirtual 99, 3) := by decide +kernel
theorem dX5_done_17 : decode cX5_done 17 = .ok (.ifCond .ne 13, 3) := by decide +kernel
theorem dX5_done_20 : decode cX5_done 20 = .ok (.new 48, 3) := by decide +kernel
theorem dX5_done_23 : decode cX5_done 23 = .ok (.dup, 1) := by decide +kernel
theorem dX5_done_24 : decode cX5_done 24 = .ok (.ldc 102, 2) := by decide +kernel
theorem dX5_done_26 : decode cX5_done 26 = .ok (.invokespecial 52, 3) := by decide +kernel
theorem dX5_done_29 : decode cX5_done 29 = .ok (.athrow, 1) := by decide +kernel
theorem dX5_done_30 : decode cX5_done 30 = .ok (.aload_n 0, 1) := by decide +kernel
theorem dX5_done_31 : decode cX5_done 31 = .ok (.getfield 22, 3) := by decide +kernel
theorem dX5_done_34 : decode cX5_done 34 = .ok (.aload_n 0, 1) := by decide +kernel
theorem dX5_done_35 : decode cX5_done 35 = .ok (.getfield 12, 3) := by decide +kernel
theorem dX5_done_38 : decode cX5_done 38 = .ok (.invokevirtual 53, 3) := by decide +kernel
theorem dX5_done_41 : decode cX5_done 41 = .ok (.aload_n 0, 1) := by decide +kernel
theorem dX5_done_42 : decode cX5_done 42 = .ok (.getfield 12, 3) := by decide +kernel
theorem dX5_done_45 : decode cX5_done 45 = .ok (.iload_n 1, 1) := by decide +kernel
theorem dX5_done_46 : decode cX5_done 46 = .ok (.iload_n 2, 1) := by decide +kernel
theorem dX5_done_47 : decode cX5_done 47 = .ok (.invokevirtual 104, 3) := by decide +kernel
theorem dX5_done_50 : decode cX5_done 50 = .ok (.ireturn, 1) := by decide +kernel
theorem dX5_lend_0 : decode cX5_lend 0 = .ok (.aload_n 0, 1) := by decide +kernel
theorem dX5_lend_1 : decode cX5_lend 1 = .ok (.iload_n 1, 1) := by decide +kernel
theorem dX5_lend_2 : decode cX5_lend 2 = .ok (.invokevirtual 61, 3) := by decide +kernel
theorem dX5_lend_5 : decode cX5_lend 5 = .ok (.aload_n 0, 1) := by decide +kernel
theorem dX5_lend_6 : decode cX5_lend 6 = .ok (.iload_n 2, 1) := by decide +kernel
theorem dX5_lend_7 : decode cX5_lend 7 = .ok (.invokevirtual 61, 3) := by decide +kernel
theorem dX5_lend_10 : decode cX5_lend 10 = .ok (.iload_n 1, 1) := by decide +kernel
theorem dX5_lend_11 : decode cX5_lend 11 = .ok (.iload_n 2, 1) := by decide +kernel
theorem dX5_lend_12 : decode cX5_lend 12 = .ok (.if_icmp .eq 13, 3) := by decide +kernel
theorem dX5_lend_15 : decode cX5_lend 15 = .ok (.iload_n 3, 1) := by decide +kernel
theorem dX5_lend_16 : decode cX5_lend 16 = .ok (.iconst 1, 1) := by decide +kernel
theorem dX5_lend_17 : decode cX5_lend 17 = .ok (.bipush 99, 2) := by decide +kernel
theorem dX5_lend_19 : decode cX5_lend 19 = .ok (.invokestatic 33, 3) := by decide +kernel
theorem dX5_lend_22 : decode cX5_lend 22 = .ok (.ifCond .eq 13, 3) := by decide +kernel
theorem dX5_lend_25 : decode cX5_lend 25 = .ok (.new 37, 3) := by decide +kernel
theorem dX5_lend_28 : decode cX5_lend 28 = .ok (.dup, 1) := by decide +kernel
theorem dX5_lend_29 : decode cX5_lend 29 = .ok (.ldc 107, 2) := by decide +kernel
theorem dX5_lend_31 : decode cX5_lend 31 = .ok (.invokespecial 41, 3) := by decide +kernel
theorem dX5_lend_34 : decode cX5_lend 34 = .ok (.athrow, 1) := by decide +kernel
theorem dX5_lend_35 : decode cX5_lend 35 = .ok (.aload_n 0, 1) := by decide +kernel
theorem dX5_lend_36 : decode cX5_lend 36 = .ok (.getfield 12, 3) := by decide +kernel
theorem dX5_lend_39 : decode cX5_lend 39 = .ok (.iload_n 1, 1) := by decide +kernel
theorem dX5_lend_40 : decode cX5_lend 40 = .ok (.invokevirtual 67, 3) := by decide +kernel
theorem dX5_lend_43 : decode cX5_lend 43 = .ok (.ifCond .eq 27, 3) := by decide +kernel
theorem dX5_lend_46 : decode cX5_lend 46 = .ok (.aload_n 0, 1) := by decide +kernel
theorem dX5_lend_47 : decode cX5_lend 47 = .ok (.getfield 12, 3) := by decide +kernel
theorem dX5_lend_50 : decode cX5_lend 50 = .ok (.iload_n 2, 1) := by decide +kernel
theorem dX5_lend_51 : decode cX5_lend 51 = .ok (.invokevirtual 67, 3) := by decide +kernel
theorem dX5_lend_54 : decode cX5_lend 54 = .ok (.ifCond .eq 16, 3) := by decide +kernel
theorem dX5_lend_57 : decode cX5_lend 57 = .ok (.aload_n 0, 1) := by decide +kernel
theorem dX5_lend_58 : decode cX5_lend 58 = .ok (.getfield 12, 3) := by decide +kernel
theorem dX5_lend_61 : decode cX5_lend 61 = .ok (.iload_n 1, 1) := by decide +kernel
theorem dX5_lend_62 : decode cX5_lend 62 = .ok (.iconst 2, 1) := by decide +kernel
theorem dX5_lend_63 : decode cX5_lend 63 = .ok (.invokevirtual 71, 3) := by decide +kernel
theorem dX5_lend_66 : decode cX5_lend 66 = .ok (.iload_n 3, 1) := by decide +kernel
theorem dX5_lend_67 : decode cX5_lend 67 = .ok (.if_icmp .ge 13, 3) := by decide +kernel
theorem dX5_lend_70 : decode cX5_lend 70 = .ok (.new 48, 3) := by decide +kernel
theorem dX5_lend_73 : decode cX5_lend 73 = .ok (.dup, 1) := by decide +kernel
theorem dX5_lend_74 : decode cX5_lend 74 = .ok (.ldc 109, 2) := by decide +kernel
theorem dX5_lend_76 : decode cX5_lend 76 = .ok (.invokespecial 52, 3) := by decide +kernel
theorem dX5_lend_79 : decode cX5_lend 79 = .ok (.athrow, 1) := by decide +kernel
theorem dX5_lend_80 : decode cX5_lend 80 = .ok (.aload_n 0, 1) := by decide +kernel
theorem dX5_lend_81 : decode cX5_lend 81 = .ok (.getfield 22, 3) := by decide +kernel
theorem dX5_lend_84 : decode cX5_lend 84 = .ok (.aload_n 0, 1) := by decide +kernel
theorem dX5_lend_85 : decode cX5_lend 85 = .ok (.getfield 12, 3) := by decide +kernel
theorem dX5_lend_88 : decode cX5_lend 88 = .ok (.invokevirtual 53, 3) := by decide +kernel
theorem dX5_lend_91 : decode cX5_lend 91 = .ok (.aload_n 0, 1) := by decide +kernel
theorem dX5_lend_92 : decode cX5_lend 92 = .ok (.getfield 12, 3) := by decide +kernel
theorem dX5_lend_95 : decode cX5_lend 95 = .ok (.iload_n 1, 1) := by decide +kernel
theorem dX5_lend_96 : decode cX5_lend 96 = .ok (.iload_n 2, 1) := by decide +kernel
theorem dX5_lend_97 : decode cX5_lend 97 = .ok (.iload_n 3, 1) := by decide +kernel
theorem dX5_lend_98 : decode cX5_lend 98 = .ok (.invokevirtual 111, 3) := by decide +kernel
theorem dX5_lend_101 : decode cX5_lend 101 = .ok (.aload_n 0, 1) := by decide +kernel
theorem dX5_lend_102 : decode cX5_lend 102 = .ok (.getfield 12, 3) := by decide +kernel
theorem dX5_lend_105 : decode cX5_lend 105 = .ok (.iload_n 2, 1) := by decide +kernel
theorem dX5_lend_106 : decode cX5_lend 106 = .ok (.iload_n 1, 1) := by decide +kernel
theorem dX5_lend_107 : decode cX5_lend 107 = .ok (.invokevirtual 115, 3) := by decide +kernel
theorem dX5_lend_110 : decode cX5_lend 110 = .ok (.ireturn, 1) := by decide +kernel
theorem dX5_payBack_0 : decode cX5_payBack 0 = .ok (.aload_n 0, 1) := by decide +kernel
theorem dX5_payBack_1 : decode cX5_payBack 1 = .ok (.iload_n 1, 1) := by decide +kernel
theorem dX5_payBack_2 : decode cX5_payBack 2 = .ok (.invokevirtual 61, 3) := by decide +kernel
theorem dX5_payBack_5 : decode cX5_payBack 5 = .ok (.aload_n 0, 1) := by decide +kernel
theorem dX5_payBack_6 : decode cX5_payBack 6 = .ok (.iload_n 2, 1) := by decide +kernel
theorem dX5_payBack_7 : decode cX5_payBack 7 = .ok (.invokevirtual 61, 3) := by decide +kernel
theorem dX5_payBack_10 : decode cX5_payBack 10 = .ok (.iload_n 2, 1) := by decide +kernel
theorem dX5_payBack_11 : decode cX5_payBack 11 = .ok (.iload_n 1, 1) := by decide +kernel
theorem dX5_payBack_12 : decode cX5_payBack 12 = .ok (.if_icmp .eq 14, 3) := by decide +kernel
theorem dX5_payBack_15 : decode cX5_payBack 15 = .ok (.iload_n 3, 1) := by decide +kernel
theorem dX5_payBack_16 : decode cX5_payBack 16 = .ok (.iconst 1, 1) := by decide +kernel
theorem dX5_payBack_17 : decode cX5_payBack 17 = .ok (.sipush 9999, 3) := by decide +kernel
theorem dX5_payBack_20 : decode cX5_payBack 20 = .ok (.invokestatic 33, 3) := by decide +kernel
theorem dX5_payBack_23 : decode cX5_payBack 23 = .ok (.ifCond .eq 13, 3) := by decide +kernel
theorem dX5_payBack_26 : decode cX5_payBack 26 = .ok (.new 37, 3) := by decide +kernel
theorem dX5_payBack_29 : decode cX5_payBack 29 = .ok (.dup, 1) := by decide +kernel
theorem dX5_payBack_30 : decode cX5_payBack 30 = .ok (.ldc 107, 2) := by decide +kernel
theorem dX5_payBack_32 : decode cX5_payBack 32 = .ok (.invokespecial 41, 3) := by decide +kernel
theorem dX5_payBack_35 : decode cX5_payBack 35 = .ok (.athrow, 1) := by decide +kernel
theorem dX5_payBack_36 : decode cX5_payBack 36 = .ok (.aload_n 0, 1) := by decide +kernel
theorem dX5_payBack_37 : decode cX5_payBack 37 = .ok (.getfield 12, 3) := by decide +kernel
theorem dX5_payBack_40 : decode cX5_payBack 40 = .ok (.iload_n 1, 1) := by decide +kernel
theorem dX5_payBack_41 : decode cX5_payBack 41 = .ok (.iload_n 2, 1) := by decide +kernel
theorem dX5_payBack_42 : decode cX5_payBack 42 = .ok (.invokevirtual 115, 3) := by decide +kernel
theorem dX5_payBack_45 : decode cX5_payBack 45 = .ok (.iload_n 3, 1) := by decide +kernel
theorem dX5_payBack_46 : decode cX5_payBack 46 = .ok (.if_icmp .lt 16, 3) := by decide +kernel
theorem dX5_payBack_49 : decode cX5_payBack 49 = .ok (.aload_n 0, 1) := by decide +kernel
theorem dX5_payBack_50 : decode cX5_payBack 50 = .ok (.getfield 12, 3) := by decide +kernel
theorem dX5_payBack_53 : decode cX5_payBack 53 = .ok (.iload_n 1, 1) := by decide +kernel
theorem dX5_payBack_54 : decode cX5_payBack 54 = .ok (.iconst 2, 1) := by decide +kernel
theorem dX5_payBack_55 : decode cX5_payBack 55 = .ok (.invokevirtual 71, 3) := by decide +kernel
theorem dX5_payBack_58 : decode cX5_payBack 58 = .ok (.iload_n 3, 1) := by decide +kernel
theorem dX5_payBack_59 : decode cX5_payBack 59 = .ok (.if_icmp .ge 13, 3) := by decide +kernel
theorem dX5_payBack_62 : decode cX5_payBack 62 = .ok (.new 48, 3) := by decide +kernel
theorem dX5_payBack_65 : decode cX5_payBack 65 = .ok (.dup, 1) := by decide +kernel
theorem dX5_payBack_66 : decode cX5_payBack 66 = .ok (.ldc 118, 2) := by decide +kernel
theorem dX5_payBack_68 : decode cX5_payBack 68 = .ok (.invokespecial 52, 3) := by decide +kernel
theorem dX5_payBack_71 : decode cX5_payBack 71 = .ok (.athrow, 1) := by decide +kernel
theorem dX5_payBack_72 : decode cX5_payBack 72 = .ok (.aload_n 0, 1) := by decide +kernel
theorem dX5_payBack_73 : decode cX5_payBack 73 = .ok (.getfield 22, 3) := by decide +kernel
theorem dX5_payBack_76 : decode cX5_payBack 76 = .ok (.aload_n 0, 1) := by decide +kernel
theorem dX5_payBack_77 : decode cX5_payBack 77 = .ok (.getfield 12, 3) := by decide +kernel
theorem dX5_payBack_80 : decode cX5_payBack 80 = .ok (.invokevirtual 53, 3) := by decide +kernel
theorem dX5_payBack_83 : decode cX5_payBack 83 = .ok (.aload_n 0, 1) := by decide +kernel
theorem dX5_payBack_84 : decode cX5_payBack 84 = .ok (.getfield 12, 3) := by decide +kernel
theorem dX5_payBack_87 : decode cX5_payBack 87 = .ok (.aload_n 0, 1) := by decide +kernel
theorem dX5_payBack_88 : decode cX5_payBack 88 = .ok (.getfield 12, 3) := by decide +kernel
theorem dX5_payBack_91 : decode cX5_payBack 91 = .ok (.iload_n 2, 1) := by decide +kernel
theorem dX5_payBack_92 : decode cX5_payBack 92 = .ok (.iload_n 1, 1) := by decide +kernel
theorem dX5_payBack_93 : decode cX5_payBack 93 = .ok (.invokevirtual 120, 3) := by decide +kernel
theorem dX5_payBack_96 : decode cX5_payBack 96 = .ok (.iload_n 3, 1) := by decide +kernel
theorem dX5_payBack_97 : decode cX5_payBack 97 = .ok (.invokevirtual 123, 3) := by decide +kernel
theorem dX5_payBack_100 : decode cX5_payBack 100 = .ok (.aload_n 0, 1) := by decide +kernel
theorem dX5_payBack_101 : decode cX5_payBack 101 = .ok (.getfield 12, 3) := by decide +kernel
theorem dX5_payBack_104 : decode cX5_payBack 104 = .ok (.iload_n 1, 1) := by decide +kernel
theorem dX5_payBack_105 : decode cX5_payBack 105 = .ok (.iload_n 2, 1) := by decide +kernel
theorem dX5_payBack_106 : decode cX5_payBack 106 = .ok (.invokevirtual 115, 3) := by decide +kernel
theorem dX5_payBack_109 : decode cX5_payBack 109 = .ok (.ireturn, 1) := by decide +kernel
theorem dX5_close_0 : decode cX5_close 0 = .ok (.aload_n 0, 1) := by decide +kernel
theorem dX5_close_1 : decode cX5_close 1 = .ok (.iload_n 1, 1) := by decide +kernel
theorem dX5_close_2 : decode cX5_close 2 = .ok (.invokevirtual 61, 3) := by decide +kernel
theorem dX5_close_5 : decode cX5_close 5 = .ok (.aload_n 0, 1) := by decide +kernel
theorem dX5_close_6 : decode cX5_close 6 = .ok (.getfield 12, 3) := by decide +kernel
theorem dX5_close_9 : decode cX5_close 9 = .ok (.iload_n 1, 1) := by decide +kernel
theorem dX5_close_10 : decode cX5_close 10 = .ok (.invokevirtual 67, 3) := by decide +kernel
theorem dX5_close_13 : decode cX5_close 13 = .ok (.ifCond .eq 14, 3) := by decide +kernel
theorem dX5_close_16 : decode cX5_close 16 = .ok (.aload_n 0, 1) := by decide +kernel
theorem dX5_close_17 : decode cX5_close 17 = .ok (.getfield 12, 3) := by decide +kernel
theorem dX5_close_20 : decode cX5_close 20 = .ok (.iload_n 1, 1) := by decide +kernel
theorem dX5_close_21 : decode cX5_close 21 = .ok (.invokevirtual 99, 3) := by decide +kernel
theorem dX5_close_24 : decode cX5_close 24 = .ok (.ifCond .eq 13, 3) := by decide +kernel
theorem dX5_close_27 : decode cX5_close 27 = .ok (.new 48, 3) := by decide +kernel
theorem dX5_close_30 : decode cX5_close 30 = .ok (.dup, 1) := by decide +kernel
theorem dX5_close_31 : decode cX5_close 31 = .ok (.ldc 127, 2) := by decide +kernel
theorem dX5_close_33 : decode cX5_close 33 = .ok (.invokespecial 52, 3) := by decide +kernel
theorem dX5_close_36 : decode cX5_close 36 = .ok (.athrow, 1) := by decide +kernel
theorem dX5_close_37 : decode cX5_close 37 = .ok (.aload_n 0, 1) := by decide +kernel
theorem dX5_close_38 : decode cX5_close 38 = .ok (.getfield 22, 3) := by decide +kernel
theorem dX5_close_41 : decode cX5_close 41 = .ok (.aload_n 0, 1) := by decide +kernel
theorem dX5_close_42 : decode cX5_close 42 = .ok (.getfield 12, 3) := by decide +kernel
theorem dX5_close_45 : decode cX5_close 45 = .ok (.invokevirtual 53, 3) := by decide +kernel
theorem dX5_close_48 : decode cX5_close 48 = .ok (.aload_n 0, 1) := by decide +kernel
theorem dX5_close_49 : decode cX5_close 49 = .ok (.getfield 12, 3) := by decide +kernel
theorem dX5_close_52 : decode cX5_close 52 = .ok (.iload_n 1, 1) := by decide +kernel
theorem dX5_close_53 : decode cX5_close 53 = .ok (.invokevirtual 129, 3) := by decide +kernel
theorem dX5_close_56 : decode cX5_close 56 = .ok (.ireturn, 1) := by decide +kernel
theorem dX5_append_0 : decode cX5_append 0 = .ok (.iload_n 1, 1) := by decide +kernel
theorem dX5_append_1 : decode cX5_append 1 = .ok (.bipush 33, 2) := by decide +kernel
theorem dX5_append_3 : decode cX5_append 3 = .ok (.bipush 126, 2) := by decide +kernel
theorem dX5_append_5 : decode cX5_append 5 = .ok (.invokestatic 33, 3) := by decide +kernel
theorem dX5_append_8 : decode cX5_append 8 = .ok (.ifCond .eq 13, 3) := by decide +kernel
theorem dX5_append_11 : decode cX5_append 11 = .ok (.new 37, 3) := by decide +kernel
theorem dX5_append_14 : decode cX5_append 14 = .ok (.dup, 1) := by decide +kernel
theorem dX5_append_15 : decode cX5_append 15 = .ok (.ldc 132, 2) := by decide +kernel
theorem dX5_append_17 : decode cX5_append 17 = .ok (.invokespecial 41, 3) := by decide +kernel
theorem dX5_append_20 : decode cX5_append 20 = .ok (.athrow, 1) := by decide +kernel
theorem dX5_append_21 : decode cX5_append 21 = .ok (.aload_n 0, 1) := by decide +kernel
theorem dX5_append_22 : decode cX5_append 22 = .ok (.getfield 29, 3) := by decide +kernel
theorem dX5_append_25 : decode cX5_append 25 = .ok (.invokevirtual 134, 3) := by decide +kernel
theorem dX5_append_28 : decode cX5_append 28 = .ok (.bipush 60, 2) := by decide +kernel
theorem dX5_append_30 : decode cX5_append 30 = .ok (.if_icmp .lt 13, 3) := by decide +kernel
theorem dX5_append_33 : decode cX5_append 33 = .ok (.new 48, 3) := by decide +kernel
theorem dX5_append_36 : decode cX5_append 36 = .ok (.dup, 1) := by decide +kernel
theorem dX5_append_37 : decode cX5_append 37 = .ok (.ldc 137, 2) := by decide +kernel
theorem dX5_append_39 : decode cX5_append 39 = .ok (.invokespecial 52, 3) := by decide +kernel
theorem dX5_append_42 : decode cX5_append 42 = .ok (.athrow, 1) := by decide +kernel
theorem dX5_append_43 : decode cX5_append 43 = .ok (.aload_n 0, 1) := by decide +kernel
theorem dX5_append_44 : decode cX5_append 44 = .ok (.getfield 29, 3) := by decide +kernel
theorem dX5_append_47 : decode cX5_append 47 = .ok (.iload_n 1, 1) := by decide +kernel
theorem dX5_append_48 : decode cX5_append 48 = .ok (.invokevirtual 139, 3) := by decide +kernel
theorem dX5_append_51 : decode cX5_append 51 = .ok (.aload_n 0, 1) := by decide +kernel
theorem dX5_append_52 : decode cX5_append 52 = .ok (.getfield 29, 3) := by decide +kernel
theorem dX5_append_55 : decode cX5_append 55 = .ok (.invokevirtual 134, 3) := by decide +kernel
theorem dX5_append_58 : decode cX5_append 58 = .ok (.ireturn, 1) := by decide +kernel
theorem dX5_clearBuffer_0 : decode cX5_clearBuffer 0 = .ok (.aload_n 0, 1) := by decide +kernel
theorem dX5_clearBuffer_1 : decode cX5_clearBuffer 1 = .ok (.getfield 29, 3) := by decide +kernel
theorem dX5_clearBuffer_4 : decode cX5_clearBuffer 4 = .ok (.invokevirtual 134, 3) := by decide +kernel
theorem dX5_clearBuffer_7 : decode cX5_clearBuffer 7 = .ok (.istore_n 1, 1) := by decide +kernel
theorem dX5_clearBuffer_8 : decode cX5_clearBuffer 8 = .ok (.aload_n 0, 1) := by decide +kernel
theorem dX5_clearBuffer_9 : decode cX5_clearBuffer 9 = .ok (.getfield 29, 3) := by decide +kernel
theorem dX5_clearBuffer_12 : decode cX5_clearBuffer 12 = .ok (.invokevirtual 142, 3) := by decide +kernel
theorem dX5_clearBuffer_15 : decode cX5_clearBuffer 15 = .ok (.iload_n 1, 1) := by decide +kernel
theorem dX5_clearBuffer_16 : decode cX5_clearBuffer 16 = .ok (.ireturn, 1) := by decide +kernel
theorem dX5_firstError_0 : decode cX5_firstError 0 = .ok (.aload_n 0, 1) := by decide +kernel
theorem dX5_firstError_1 : decode cX5_firstError 1 = .ok (.getfield 29, 3) := by decide +kernel
theorem dX5_firstError_4 : decode cX5_firstError 4 = .ok (.invokevirtual 145, 3) := by decide +kernel
theorem dX5_firstError_7 : decode cX5_firstError 7 = .ok (.ireturn, 1) := by decide +kernel
theorem dX5_openAll_0 : decode cX5_openAll 0 = .ok (.aload_n 0, 1) := by decide +kernel
theorem dX5_openAll_1 : decode cX5_openAll 1 = .ok (.getfield 29, 3) := by decide +kernel
theorem dX5_openAll_4 : decode cX5_openAll 4 = .ok (.invokevirtual 148, 3) := by decide +kernel
theorem dX5_openAll_7 : decode cX5_openAll 7 = .ok (.ifCond .ne 13, 3) := by decide +kernel
theorem dX5_openAll_10 : decode cX5_openAll 10 = .ok (.new 37, 3) := by decide +kernel
theorem dX5_openAll_13 : decode cX5_openAll 13 = .ok (.dup, 1) := by decide +kernel
theorem dX5_openAll_14 : decode cX5_openAll 14 = .ok (.ldc 152, 2) := by decide +kernel
theorem dX5_openAll_16 : decode cX5_openAll 16 = .ok (.invokespecial 41, 3) := by decide +kernel
theorem dX5_openAll_19 : decode cX5_openAll 19 = .ok (.athrow, 1) := by decide +kernel
theorem dX5_openAll_20 : decode cX5_openAll 20 = .ok (.aload_n 0, 1) := by decide +kernel
theorem dX5_openAll_21 : decode cX5_openAll 21 = .ok (.getfield 12, 3) := by decide +kernel
theorem dX5_openAll_24 : decode cX5_openAll 24 = .ok (.invokevirtual 44, 3) := by decide +kernel
theorem dX5_openAll_27 : decode cX5_openAll 27 = .ok (.aload_n 0, 1) := by decide +kernel
theorem dX5_openAll_28 : decode cX5_openAll 28 = .ok (.getfield 29, 3) := by decide +kernel
theorem dX5_openAll_31 : decode cX5_openAll 31 = .ok (.invokevirtual 154, 3) := by decide +kernel
theorem dX5_openAll_34 : decode cX5_openAll 34 = .ok (.iadd, 1) := by decide +kernel
theorem dX5_openAll_35 : decode cX5_openAll 35 = .ok (.bipush 6, 2) := by decide +kernel
theorem dX5_openAll_37 : decode cX5_openAll 37 = .ok (.if_icmp .le 13, 3) := by decide +kernel
theorem dX5_openAll_40 : decode cX5_openAll 40 = .ok (.new 48, 3) := by decide +kernel
theorem dX5_openAll_43 : decode cX5_openAll 43 = .ok (.dup, 1) := by decide +kernel
theorem dX5_openAll_44 : decode cX5_openAll 44 = .ok (.ldc 50, 2) := by decide +kernel
theorem dX5_openAll_46 : decode cX5_openAll 46 = .ok (.invokespecial 52, 3) := by decide +kernel
theorem dX5_openAll_49 : decode cX5_openAll 49 = .ok (.athrow, 1) := by decide +kernel
theorem dX5_openAll_50 : decode cX5_openAll 50 = .ok (.aload_n 0, 1) := by decide +kernel
theorem dX5_openAll_51 : decode cX5_openAll 51 = .ok (.getfield 22, 3) := by decide +kernel
theorem dX5_openAll_54 : decode cX5_openAll 54 = .ok (.aload_n 0, 1) := by decide +kernel
theorem dX5_openAll_55 : decode cX5_openAll 55 = .ok (.getfield 12, 3) := by decide +kernel
theorem dX5_openAll_58 : decode cX5_openAll 58 = .ok (.invokevirtual 53, 3) := by decide +kernel
theorem dX5_openAll_61 : decode cX5_openAll 61 = .ok (.aload_n 0, 1) := by decide +kernel
theorem dX5_openAll_62 : decode cX5_openAll 62 = .ok (.invokevirtual 157, 3) := by decide +kernel
theorem dX5_openAll_65 : decode cX5_openAll 65 = .ok (.aload_n 0, 1) := by decide +kernel
theorem dX5_openAll_66 : decode cX5_openAll 66 = .ok (.getfield 29, 3) := by decide +kernel
theorem dX5_openAll_69 : decode cX5_openAll 69 = .ok (.invokevirtual 142, 3) := by decide +kernel
theorem dX5_openAll_72 : decode cX5_openAll 72 = .ok (.aload_n 0, 1) := by decide +kernel
theorem dX5_openAll_73 : decode cX5_openAll 73 = .ok (.getfield 12, 3) := by decide +kernel
theorem dX5_openAll_76 : decode cX5_openAll 76 = .ok (.invokevirtual 44, 3) := by decide +kernel
theorem dX5_openAll_79 : decode cX5_openAll 79 = .ok (.ireturn, 1) := by decide +kernel
theorem dX5_undo_0 : decode cX5_undo 0 = .ok (.aload_n 0, 1) := by decide +kernel
theorem dX5_undo_1 : decode cX5_undo 1 = .ok (.getfield 22, 3) := by decide +kernel
theorem dX5_undo_4 : decode cX5_undo 4 = .ok (.invokevirtual 160, 3) := by decide +kernel
theorem dX5_undo_7 : decode cX5_undo 7 = .ok (.ifCond .ne 13, 3) := by decide +kernel
theorem dX5_undo_10 : decode cX5_undo 10 = .ok (.new 48, 3) := by decide +kernel
theorem dX5_undo_13 : decode cX5_undo 13 = .ok (.dup, 1) := by decide +kernel
theorem dX5_undo_14 : decode cX5_undo 14 = .ok (.ldc 163, 2) := by decide +kernel
theorem dX5_undo_16 : decode cX5_undo 16 = .ok (.invokespecial 52, 3) := by decide +kernel
theorem dX5_undo_19 : decode cX5_undo 19 = .ok (.athrow, 1) := by decide +kernel
theorem dX5_undo_20 : decode cX5_undo 20 = .ok (.aload_n 0, 1) := by decide +kernel
theorem dX5_undo_21 : decode cX5_undo 21 = .ok (.getfield 22, 3) := by decide +kernel
theorem dX5_undo_24 : decode cX5_undo 24 = .ok (.aload_n 0, 1) := by decide +kernel
theorem dX5_undo_25 : decode cX5_undo 25 = .ok (.getfield 12, 3) := by decide +kernel
theorem dX5_undo_28 : decode cX5_undo 28 = .ok (.invokevirtual 165, 3) := by decide +kernel
theorem dX5_undo_31 : decode cX5_undo 31 = .ok (.aload_n 0, 1) := by decide +kernel
theorem dX5_undo_32 : decode cX5_undo 32 = .ok (.getfield 22, 3) := by decide +kernel
theorem dX5_undo_35 : decode cX5_undo 35 = .ok (.invokevirtual 160, 3) := by decide +kernel
theorem dX5_undo_38 : decode cX5_undo 38 = .ok (.ireturn, 1) := by decide +kernel
theorem dX5_project_0 : decode cX5_project 0 = .ok (.aload_n 0, 1) := by decide +kernel
theorem dX5_project_1 : decode cX5_project 1 = .ok (.iload_n 1, 1) := by decide +kernel
theorem dX5_project_2 : decode cX5_project 2 = .ok (.invokevirtual 61, 3) := by decide +kernel
theorem dX5_project_5 : decode cX5_project 5 = .ok (.iload_n 2, 1) := by decide +kernel
theorem dX5_project_6 : decode cX5_project 6 = .ok (.iconst 0, 1) := by decide +kernel
theorem dX5_project_7 : decode cX5_project 7 = .ok (.bipush 14, 2) := by decide +kernel
theorem dX5_project_9 : decode cX5_project 9 = .ok (.invokestatic 33, 3) := by decide +kernel
theorem dX5_project_12 : decode cX5_project 12 = .ok (.ifCond .eq 13, 3) := by decide +kernel
theorem dX5_project_15 : decode cX5_project 15 = .ok (.new 37, 3) := by decide +kernel
theorem dX5_project_18 : decode cX5_project 18 = .ok (.dup, 1) := by decide +kernel
theorem dX5_project_19 : decode cX5_project 19 = .ok (.ldc 168, 2) := by decide +kernel
theorem dX5_project_21 : decode cX5_project 21 = .ok (.invokespecial 41, 3) := by decide +kernel
theorem dX5_project_24 : decode cX5_project 24 = .ok (.athrow, 1) := by decide +kernel
theorem dX5_project_25 : decode cX5_project 25 = .ok (.aload_n 0, 1) := by decide +kernel
theorem dX5_project_26 : decode cX5_project 26 = .ok (.getfield 12, 3) := by decide +kernel
theorem dX5_project_29 : decode cX5_project 29 = .ok (.iload_n 1, 1) := by decide +kernel
theorem dX5_project_30 : decode cX5_project 30 = .ok (.iload_n 2, 1) := by decide +kernel
theorem dX5_project_31 : decode cX5_project 31 = .ok (.invokevirtual 71, 3) := by decide +kernel
theorem dX5_project_34 : decode cX5_project 34 = .ok (.ireturn, 1) := by decide +kernel
theorem dX5_task_0 : decode cX5_task 0 = .ok (.aload_n 0, 1) := by decide +kernel
theorem dX5_task_1 : decode cX5_task 1 = .ok (.iload_n 1, 1) := by decide +kernel
theorem dX5_task_2 : decode cX5_task 2 = .ok (.invokevirtual 61, 3) := by decide +kernel
theorem dX5_task_5 : decode cX5_task 5 = .ok (.iload_n 2, 1) := by decide +kernel
theorem dX5_task_6 : decode cX5_task 6 = .ok (.iconst 0, 1) := by decide +kernel
theorem dX5_task_7 : decode cX5_task 7 = .ok (.aload_n 0, 1) := by decide +kernel
theorem dX5_task_8 : decode cX5_task 8 = .ok (.getfield 12, 3) := by decide +kernel
theorem dX5_task_11 : decode cX5_task 11 = .ok (.iload_n 1, 1) := by decide +kernel
theorem dX5_task_12 : decode cX5_task 12 = .ok (.bipush 7, 2) := by decide +kernel
theorem dX5_task_14 : decode cX5_task 14 = .ok (.invokevirtual 71, 3) := by decide +kernel
theorem dX5_task_17 : decode cX5_task 17 = .ok (.iconst 1, 1) := by decide +kernel
theorem dX5_task_18 : decode cX5_task 18 = .ok (.isub, 1) := by decide +kernel
theorem dX5_task_19 : decode cX5_task 19 = .ok (.invokestatic 33, 3) := by decide +kernel
theorem dX5_task_22 : decode cX5_task 22 = .ok (.ifCond .eq 13, 3) := by decide +kernel
theorem dX5_task_25 : decode cX5_task 25 = .ok (.new 170, 3) := by decide +kernel
theorem dX5_task_28 : decode cX5_task 28 = .ok (.dup, 1) := by decide +kernel
theorem dX5_task_29 : decode cX5_task 29 = .ok (.ldc 172, 2) := by decide +kernel
theorem dX5_task_31 : decode cX5_task 31 = .ok (.invokespecial 174, 3) := by decide +kernel
theorem dX5_task_34 : decode cX5_task 34 = .ok (.athrow, 1) := by decide +kernel
theorem dX5_task_35 : decode cX5_task 35 = .ok (.iload_n 3, 1) := by decide +kernel
theorem dX5_task_36 : decode cX5_task 36 = .ok (.iconst 0, 1) := by decide +kernel
theorem dX5_task_37 : decode cX5_task 37 = .ok (.iconst 5, 1) := by decide +kernel
theorem dX5_task_38 : decode cX5_task 38 = .ok (.invokestatic 33, 3) := by decide +kernel
theorem dX5_task_41 : decode cX5_task 41 = .ok (.ifCond .eq 13, 3) := by decide +kernel
theorem dX5_task_44 : decode cX5_task 44 = .ok (.new 37, 3) := by decide +kernel
theorem dX5_task_47 : decode cX5_task 47 = .ok (.dup, 1) := by decide +kernel
theorem dX5_task_48 : decode cX5_task 48 = .ok (.ldc 168, 2) := by decide +kernel
theorem dX5_task_50 : decode cX5_task 50 = .ok (.invokespecial 41, 3) := by decide +kernel
theorem dX5_task_53 : decode cX5_task 53 = .ok (.athrow, 1) := by decide +kernel
theorem dX5_task_54 : decode cX5_task 54 = .ok (.aload_n 0, 1) := by decide +kernel
theorem dX5_task_55 : decode cX5_task 55 = .ok (.getfield 12, 3) := by decide +kernel
theorem dX5_task_58 : decode cX5_task 58 = .ok (.iload_n 1, 1) := by decide +kernel
theorem dX5_task_59 : decode cX5_task 59 = .ok (.iload_n 2, 1) := by decide +kernel
theorem dX5_task_60 : decode cX5_task 60 = .ok (.iload_n 3, 1) := by decide +kernel
theorem dX5_task_61 : decode cX5_task 61 = .ok (.invokevirtual 175, 3) := by decide +kernel
theorem dX5_task_64 : decode cX5_task 64 = .ok (.ireturn, 1) := by decide +kernel
theorem dX5_loan_0 : decode cX5_loan 0 = .ok (.iload_n 1, 1) := by decide +kernel
theorem dX5_loan_1 : decode cX5_loan 1 = .ok (.iconst 0, 1) := by decide +kernel
theorem dX5_loan_2 : decode cX5_loan 2 = .ok (.aload_n 0, 1) := by decide +kernel
theorem dX5_loan_3 : decode cX5_loan 3 = .ok (.getfield 12, 3) := by decide +kernel
theorem dX5_loan_6 : decode cX5_loan 6 = .ok (.invokevirtual 179, 3) := by decide +kernel
theorem dX5_loan_9 : decode cX5_loan 9 = .ok (.iconst 1, 1) := by decide +kernel
theorem dX5_loan_10 : decode cX5_loan 10 = .ok (.isub, 1) := by decide +kernel
theorem dX5_loan_11 : decode cX5_loan 11 = .ok (.invokestatic 33, 3) := by decide +kernel
theorem dX5_loan_14 : decode cX5_loan 14 = .ok (.ifCond .eq 13, 3) := by decide +kernel
theorem dX5_loan_17 : decode cX5_loan 17 = .ok (.new 170, 3) := by decide +kernel
theorem dX5_loan_20 : decode cX5_loan 20 = .ok (.dup, 1) := by decide +kernel
theorem dX5_loan_21 : decode cX5_loan 21 = .ok (.ldc 182, 2) := by decide +kernel
theorem dX5_loan_23 : decode cX5_loan 23 = .ok (.invokespecial 174, 3) := by decide +kernel
theorem dX5_loan_26 : decode cX5_loan 26 = .ok (.athrow, 1) := by decide +kernel
theorem dX5_loan_27 : decode cX5_loan 27 = .ok (.iload_n 2, 1) := by decide +kernel
theorem dX5_loan_28 : decode cX5_loan 28 = .ok (.iconst 0, 1) := by decide +kernel
theorem dX5_loan_29 : decode cX5_loan 29 = .ok (.iconst 2, 1) := by decide +kernel
theorem dX5_loan_30 : decode cX5_loan 30 = .ok (.invokestatic 33, 3) := by decide +kernel
theorem dX5_loan_33 : decode cX5_loan 33 = .ok (.ifCond .eq 13, 3) := by decide +kernel
theorem dX5_loan_36 : decode cX5_loan 36 = .ok (.new 37, 3) := by decide +kernel
theorem dX5_loan_39 : decode cX5_loan 39 = .ok (.dup, 1) := by decide +kernel
theorem dX5_loan_40 : decode cX5_loan 40 = .ok (.ldc 184, 2) := by decide +kernel
theorem dX5_loan_42 : decode cX5_loan 42 = .ok (.invokespecial 41, 3) := by decide +kernel
theorem dX5_loan_45 : decode cX5_loan 45 = .ok (.athrow, 1) := by decide +kernel
theorem dX5_loan_46 : decode cX5_loan 46 = .ok (.aload_n 0, 1) := by decide +kernel
theorem dX5_loan_47 : decode cX5_loan 47 = .ok (.getfield 12, 3) := by decide +kernel
theorem dX5_loan_50 : decode cX5_loan 50 = .ok (.iload_n 1, 1) := by decide +kernel
theorem dX5_loan_51 : decode cX5_loan 51 = .ok (.iload_n 2, 1) := by decide +kernel
theorem dX5_loan_52 : decode cX5_loan 52 = .ok (.invokevirtual 186, 3) := by decide +kernel
theorem dX5_loan_55 : decode cX5_loan 55 = .ok (.ireturn, 1) := by decide +kernel
theorem dX5_owed_0 : decode cX5_owed 0 = .ok (.aload_n 0, 1) := by decide +kernel
theorem dX5_owed_1 : decode cX5_owed 1 = .ok (.iload_n 1, 1) := by decide +kernel
theorem dX5_owed_2 : decode cX5_owed 2 = .ok (.invokevirtual 61, 3) := by decide +kernel
theorem dX5_owed_5 : decode cX5_owed 5 = .ok (.aload_n 0, 1) := by decide +kernel
theorem dX5_owed_6 : decode cX5_owed 6 = .ok (.iload_n 2, 1) := by decide +kernel
theorem dX5_owed_7 : decode cX5_owed 7 = .ok (.invokevirtual 61, 3) := by decide +kernel
theorem dX5_owed_10 : decode cX5_owed 10 = .ok (.aload_n 0, 1) := by decide +kernel
theorem dX5_owed_11 : decode cX5_owed 11 = .ok (.getfield 12, 3) := by decide +kernel
theorem dX5_owed_14 : decode cX5_owed 14 = .ok (.iload_n 1, 1) := by decide +kernel
theorem dX5_owed_15 : decode cX5_owed 15 = .ok (.iload_n 2, 1) := by decide +kernel
theorem dX5_owed_16 : decode cX5_owed 16 = .ok (.invokevirtual 115, 3) := by decide +kernel
theorem dX5_owed_19 : decode cX5_owed 19 = .ok (.ireturn, 1) := by decide +kernel
theorem dX5_lender_0 : decode cX5_lender 0 = .ok (.aload_n 0, 1) := by decide +kernel
theorem dX5_lender_1 : decode cX5_lender 1 = .ok (.iload_n 1, 1) := by decide +kernel
theorem dX5_lender_2 : decode cX5_lender 2 = .ok (.invokevirtual 61, 3) := by decide +kernel
theorem dX5_lender_5 : decode cX5_lender 5 = .ok (.iload_n 2, 1) := by decide +kernel
theorem dX5_lender_6 : decode cX5_lender 6 = .ok (.iconst 0, 1) := by decide +kernel
theorem dX5_lender_7 : decode cX5_lender 7 = .ok (.iconst 4, 1) := by decide +kernel
theorem dX5_lender_8 : decode cX5_lender 8 = .ok (.invokestatic 33, 3) := by decide +kernel
theorem dX5_lender_11 : decode cX5_lender 11 = .ok (.ifCond .eq 13, 3) := by decide +kernel
theorem dX5_lender_14 : decode cX5_lender 14 = .ok (.new 37, 3) := by decide +kernel
theorem dX5_lender_17 : decode cX5_lender 17 = .ok (.dup, 1) := by decide +kernel
theorem dX5_lender_18 : decode cX5_lender 18 = .ok (.ldc 189, 2) := by decide +kernel
theorem dX5_lender_20 : decode cX5_lender 20 = .ok (.invokespecial 41, 3) := by decide +kernel
theorem dX5_lender_23 : decode cX5_lender 23 = .ok (.athrow, 1) := by decide +kernel
theorem dX5_lender_24 : decode cX5_lender 24 = .ok (.aload_n 0, 1) := by decide +kernel
theorem dX5_lender_25 : decode cX5_lender 25 = .ok (.getfield 12, 3) := by decide +kernel
theorem dX5_lender_28 : decode cX5_lender 28 = .ok (.iload_n 1, 1) := by decide +kernel
theorem dX5_lender_29 : decode cX5_lender 29 = .ok (.iload_n 2, 1) := by decide +kernel
theorem dX5_lender_30 : decode cX5_lender 30 = .ok (.invokevirtual 191, 3) := by decide +kernel
theorem dX5_lender_33 : decode cX5_lender 33 = .ok (.ireturn, 1) := by decide +kernel
theorem dX5_count_0 : decode cX5_count 0 = .ok (.iload_n 1, 1) := by decide +kernel
theorem dX5_count_1 : decode cX5_count 1 = .ok (.iconst 0, 1) := by decide +kernel
theorem dX5_count_2 : decode cX5_count 2 = .ok (.bipush 9, 2) := by decide +kernel
theorem dX5_count_4 : decode cX5_count 4 = .ok (.invokestatic 33, 3) := by decide +kernel
theorem dX5_count_7 : decode cX5_count 7 = .ok (.ifCond .eq 13, 3) := by decide +kernel
theorem dX5_count_10 : decode cX5_count 10 = .ok (.new 37, 3) := by decide +kernel
theorem dX5_count_13 : decode cX5_count 13 = .ok (.dup, 1) := by decide +kernel
theorem dX5_count_14 : decode cX5_count 14 = .ok (.ldc 194, 2) := by decide +kernel
theorem dX5_count_16 : decode cX5_count 16 = .ok (.invokespecial 41, 3) := by decide +kernel
theorem dX5_count_19 : decode cX5_count 19 = .ok (.athrow, 1) := by decide +kernel
theorem dX5_count_20 : decode cX5_count 20 = .ok (.aload_n 0, 1) := by decide +kernel
theorem dX5_count_21 : decode cX5_count 21 = .ok (.iload_n 1, 1) := by decide +kernel
theorem dX5_count_22 : decode cX5_count 22 = .ok (.invokevirtual 196, 3) := by decide +kernel
theorem dX5_count_25 : decode cX5_count 25 = .ok (.ireturn, 1) := by decide +kernel
theorem dX5_setting_0 : decode cX5_setting 0 = .ok (.iload_n 1, 1) := by decide +kernel
theorem dX5_setting_1 : decode cX5_setting 1 = .ok (.invokestatic 84, 3) := by decide +kernel
theorem dX5_setting_4 : decode cX5_setting 4 = .ok (.aload_n 0, 1) := by decide +kernel
theorem dX5_setting_5 : decode cX5_setting 5 = .ok (.getfield 12, 3) := by decide +kernel
theorem dX5_setting_8 : decode cX5_setting 8 = .ok (.iload_n 1, 1) := by decide +kernel
theorem dX5_setting_9 : decode cX5_setting 9 = .ok (.invokevirtual 199, 3) := by decide +kernel
theorem dX5_setting_12 : decode cX5_setting 12 = .ok (.ireturn, 1) := by decide +kernel
theorem dX5_ifDone_0 : decode cX5_ifDone 0 = .ok (.aload_n 0, 1) := by decide +kernel
theorem dX5_ifDone_1 : decode cX5_ifDone 1 = .ok (.iload_n 1, 1) := by decide +kernel
theorem dX5_ifDone_2 : decode cX5_ifDone 2 = .ok (.invokevirtual 61, 3) := by decide +kernel
theorem dX5_ifDone_5 : decode cX5_ifDone 5 = .ok (.iload_n 2, 1) := by decide +kernel
theorem dX5_ifDone_6 : decode cX5_ifDone 6 = .ok (.invokestatic 96, 3) := by decide +kernel
theorem dX5_ifDone_9 : decode cX5_ifDone 9 = .ok (.iload_n 3, 1) := by decide +kernel
theorem dX5_ifDone_10 : decode cX5_ifDone 10 = .ok (.iconst 0, 1) := by decide +kernel
theorem dX5_ifDone_11 : decode cX5_ifDone 11 = .ok (.iconst 4, 1) := by decide +kernel
theorem dX5_ifDone_12 : decode cX5_ifDone 12 = .ok (.invokestatic 33, 3) := by decide +kernel
theorem dX5_ifDone_15 : decode cX5_ifDone 15 = .ok (.ifCond .eq 13, 3) := by decide +kernel
theorem dX5_ifDone_18 : decode cX5_ifDone 18 = .ok (.new 37, 3) := by decide +kernel
theorem dX5_ifDone_21 : decode cX5_ifDone 21 = .ok (.dup, 1) := by decide +kernel
theorem dX5_ifDone_22 : decode cX5_ifDone 22 = .ok (.ldc 202, 2) := by decide +kernel
theorem dX5_ifDone_24 : decode cX5_ifDone 24 = .ok (.invokespecial 41, 3) := by decide +kernel
theorem dX5_ifDone_27 : decode cX5_ifDone 27 = .ok (.athrow, 1) := by decide +kernel
theorem dX5_ifDone_28 : decode cX5_ifDone 28 = .ok (.aload_n 0, 1) := by decide +kernel
theorem dX5_ifDone_29 : decode cX5_ifDone 29 = .ok (.iload_n 1, 1) := by decide +kernel
theorem dX5_ifDone_30 : decode cX5_ifDone 30 = .ok (.iload_n 2, 1) := by decide +kernel
theorem dX5_ifDone_31 : decode cX5_ifDone 31 = .ok (.invokevirtual 204, 3) := by decide +kernel
theorem dX5_ifDone_34 : decode cX5_ifDone 34 = .ok (.ifCond .eq 12, 3) := by decide +kernel
theorem dX5_ifDone_37 : decode cX5_ifDone 37 = .ok (.aload_n 0, 1) := by decide +kernel
theorem dX5_ifDone_38 : decode cX5_ifDone 38 = .ok (.iload_n 1, 1) := by decide +kernel
theorem dX5_ifDone_39 : decode cX5_ifDone 39 = .ok (.iload_n 3, 1) := by decide +kernel
theorem dX5_ifDone_40 : decode cX5_ifDone 40 = .ok (.invokevirtual 208, 3) := by decide +kernel
theorem dX5_ifDone_43 : decode cX5_ifDone 43 = .ok (.goto 4, 3) := by decide +kernel
theorem dX5_ifDone_46 : decode cX5_ifDone 46 = .ok (.iconst (-1), 1) := by decide +kernel
theorem dX5_ifDone_47 : decode cX5_ifDone 47 = .ok (.ireturn, 1) := by decide +kernel
theorem dX5_bears_0 : decode cX5_bears 0 = .ok (.aload_n 0, 1) := by decide +kernel
theorem dX5_bears_1 : decode cX5_bears 1 = .ok (.iload_n 1, 1) := by decide +kernel
theorem dX5_bears_2 : decode cX5_bears 2 = .ok (.invokevirtual 61, 3) := by decide +kernel
theorem dX5_bears_5 : decode cX5_bears 5 = .ok (.aload_n 0, 1) := by decide +kernel
theorem dX5_bears_6 : decode cX5_bears 6 = .ok (.getfield 12, 3) := by decide +kernel
theorem dX5_bears_9 : decode cX5_bears 9 = .ok (.iload_n 1, 1) := by decide +kernel
theorem dX5_bears_10 : decode cX5_bears 10 = .ok (.invokevirtual 211, 3) := by decide +kernel
theorem dX5_bears_13 : decode cX5_bears 13 = .ok (.ireturn, 1) := by decide +kernel
theorem dX5_weakest_0 : decode cX5_weakest 0 = .ok (.aload_n 0, 1) := by decide +kernel
theorem dX5_weakest_1 : decode cX5_weakest 1 = .ok (.getfield 12, 3) := by decide +kernel
theorem dX5_weakest_4 : decode cX5_weakest 4 = .ok (.invokevirtual 214, 3) := by decide +kernel
theorem dX5_weakest_7 : decode cX5_weakest 7 = .ok (.ireturn, 1) := by decide +kernel
theorem dX5_bestRule_0 : decode cX5_bestRule 0 = .ok (.aload_n 0, 1) := by decide +kernel
theorem dX5_bestRule_1 : decode cX5_bestRule 1 = .ok (.iload_n 1, 1) := by decide +kernel
theorem dX5_bestRule_2 : decode cX5_bestRule 2 = .ok (.invokevirtual 61, 3) := by decide +kernel
theorem dX5_bestRule_5 : decode cX5_bestRule 5 = .ok (.iload_n 2, 1) := by decide +kernel
theorem dX5_bestRule_6 : decode cX5_bestRule 6 = .ok (.invokestatic 96, 3) := by decide +kernel
theorem dX5_bestRule_9 : decode cX5_bestRule 9 = .ok (.aload_n 0, 1) := by decide +kernel
theorem dX5_bestRule_10 : decode cX5_bestRule 10 = .ok (.iload_n 1, 1) := by decide +kernel
theorem dX5_bestRule_11 : decode cX5_bestRule 11 = .ok (.iload_n 2, 1) := by decide +kernel
theorem dX5_bestRule_12 : decode cX5_bestRule 12 = .ok (.invokevirtual 217, 3) := by decide +kernel
theorem dX5_bestRule_15 : decode cX5_bestRule 15 = .ok (.ireturn, 1) := by decide +kernel
theorem dX5_lateShare_0 : decode cX5_lateShare 0 = .ok (.aload_n 0, 1) := by decide +kernel
theorem dX5_lateShare_1 : decode cX5_lateShare 1 = .ok (.getfield 12, 3) := by decide +kernel
theorem dX5_lateShare_4 : decode cX5_lateShare 4 = .ok (.invokevirtual 220, 3) := by decide +kernel
theorem dX5_lateShare_7 : decode cX5_lateShare 7 = .ok (.istore_n 1, 1) := by decide +kernel
theorem dX5_lateShare_8 : decode cX5_lateShare 8 = .ok (.iload_n 1, 1) := by decide +kernel
theorem dX5_lateShare_9 : decode cX5_lateShare 9 = .ok (.ifCond .ne 7, 3) := by decide +kernel
theorem dX5_lateShare_12 : decode cX5_lateShare 12 = .ok (.dconst 0, 1) := by decide +kernel
theorem dX5_lateShare_13 : decode cX5_lateShare 13 = .ok (.goto 16, 3) := by decide +kernel
theorem dX5_lateShare_16 : decode cX5_lateShare 16 = .ok (.aload_n 0, 1) := by decide +kernel
theorem dX5_lateShare_17 : decode cX5_lateShare 17 = .ok (.getfield 12, 3) := by decide +kernel
theorem dX5_lateShare_20 : decode cX5_lateShare 20 = .ok (.bipush 6, 2) := by decide +kernel
theorem dX5_lateShare_22 : decode cX5_lateShare 22 = .ok (.invokevirtual 223, 3) := by decide +kernel
theorem dX5_lateShare_25 : decode cX5_lateShare 25 = .ok (.i2d, 1) := by decide +kernel
theorem dX5_lateShare_26 : decode cX5_lateShare 26 = .ok (.iload_n 1, 1) := by decide +kernel
theorem dX5_lateShare_27 : decode cX5_lateShare 27 = .ok (.i2d, 1) := by decide +kernel
theorem dX5_lateShare_28 : decode cX5_lateShare 28 = .ok (.ddiv, 1) := by decide +kernel
theorem dX5_lateShare_29 : decode cX5_lateShare 29 = .ok (.dreturn, 1) := by decide +kernel
theorem dX5_digest_0 : decode cX5_digest 0 = .ok (.ldc2_w 226, 3) := by decide +kernel
theorem dX5_digest_3 : decode cX5_digest 3 = .ok (.lstore_n 1, 1) := by decide +kernel
theorem dX5_digest_4 : decode cX5_digest 4 = .ok (.iconst 0, 1) := by decide +kernel
theorem dX5_digest_5 : decode cX5_digest 5 = .ok (.istore_n 3, 1) := by decide +kernel
theorem dX5_digest_6 : decode cX5_digest 6 = .ok (.iload_n 3, 1) := by decide +kernel
theorem dX5_digest_7 : decode cX5_digest 7 = .ok (.bipush 9, 2) := by decide +kernel
theorem dX5_digest_9 : decode cX5_digest 9 = .ok (.if_icmp .gt 20, 3) := by decide +kernel
theorem dX5_digest_12 : decode cX5_digest 12 = .ok (.lload_n 1, 1) := by decide +kernel
theorem dX5_digest_13 : decode cX5_digest 13 = .ok (.aload_n 0, 1) := by decide +kernel
theorem dX5_digest_14 : decode cX5_digest 14 = .ok (.iload_n 3, 1) := by decide +kernel
theorem dX5_digest_15 : decode cX5_digest 15 = .ok (.invokevirtual 196, 3) := by decide +kernel
theorem dX5_digest_18 : decode cX5_digest 18 = .ok (.i2l, 1) := by decide +kernel
theorem dX5_digest_19 : decode cX5_digest 19 = .ok (.invokestatic 228, 3) := by decide +kernel
theorem dX5_digest_22 : decode cX5_digest 22 = .ok (.lstore_n 1, 1) := by decide +kernel
theorem dX5_digest_23 : decode cX5_digest 23 = .ok (.iinc 3 1, 3) := by decide +kernel
theorem dX5_digest_26 : decode cX5_digest 26 = .ok (.goto (-20), 3) := by decide +kernel
theorem dX5_digest_29 : decode cX5_digest 29 = .ok (.iconst 0, 1) := by decide +kernel
theorem dX5_digest_30 : decode cX5_digest 30 = .ok (.istore_n 3, 1) := by decide +kernel
theorem dX5_digest_31 : decode cX5_digest 31 = .ok (.iload_n 3, 1) := by decide +kernel
theorem dX5_digest_32 : decode cX5_digest 32 = .ok (.getstatic 232, 3) := by decide +kernel
theorem dX5_digest_35 : decode cX5_digest 35 = .ok (.arraylength, 1) := by decide +kernel
theorem dX5_digest_36 : decode cX5_digest 36 = .ok (.if_icmp .ge 23, 3) := by decide +kernel
theorem dX5_digest_39 : decode cX5_digest 39 = .ok (.lload_n 1, 1) := by decide +kernel
theorem dX5_digest_40 : decode cX5_digest 40 = .ok (.aload_n 0, 1) := by decide +kernel
theorem dX5_digest_41 : decode cX5_digest 41 = .ok (.getfield 12, 3) := by decide +kernel
theorem dX5_digest_44 : decode cX5_digest 44 = .ok (.iload_n 3, 1) := by decide +kernel
theorem dX5_digest_45 : decode cX5_digest 45 = .ok (.invokevirtual 199, 3) := by decide +kernel
theorem dX5_digest_48 : decode cX5_digest 48 = .ok (.i2l, 1) := by decide +kernel
theorem dX5_digest_49 : decode cX5_digest 49 = .ok (.invokestatic 228, 3) := by decide +kernel
theorem dX5_digest_52 : decode cX5_digest 52 = .ok (.lstore_n 1, 1) := by decide +kernel
theorem dX5_digest_53 : decode cX5_digest 53 = .ok (.iinc 3 1, 3) := by decide +kernel
theorem dX5_digest_56 : decode cX5_digest 56 = .ok (.goto (-25), 3) := by decide +kernel
theorem dX5_digest_59 : decode cX5_digest 59 = .ok (.iconst 0, 1) := by decide +kernel
theorem dX5_digest_60 : decode cX5_digest 60 = .ok (.istore_n 3, 1) := by decide +kernel
theorem dX5_digest_61 : decode cX5_digest 61 = .ok (.iload_n 3, 1) := by decide +kernel
theorem dX5_digest_62 : decode cX5_digest 62 = .ok (.aload_n 0, 1) := by decide +kernel
theorem dX5_digest_63 : decode cX5_digest 63 = .ok (.getfield 12, 3) := by decide +kernel
theorem dX5_digest_66 : decode cX5_digest 66 = .ok (.invokevirtual 44, 3) := by decide +kernel
theorem dX5_digest_69 : decode cX5_digest 69 = .ok (.if_icmp .ge 23, 3) := by decide +kernel
theorem dX5_digest_72 : decode cX5_digest 72 = .ok (.aload_n 0, 1) := by decide +kernel
theorem dX5_digest_73 : decode cX5_digest 73 = .ok (.lload_n 1, 1) := by decide +kernel
theorem dX5_digest_74 : decode cX5_digest 74 = .ok (.iload_n 3, 1) := by decide +kernel
theorem dX5_digest_75 : decode cX5_digest 75 = .ok (.invokevirtual 236, 3) := by decide +kernel
theorem dX5_digest_78 : decode cX5_digest 78 = .ok (.lstore_n 1, 1) := by decide +kernel
theorem dX5_digest_79 : decode cX5_digest 79 = .ok (.aload_n 0, 1) := by decide +kernel
theorem dX5_digest_80 : decode cX5_digest 80 = .ok (.lload_n 1, 1) := by decide +kernel
theorem dX5_digest_81 : decode cX5_digest 81 = .ok (.iload_n 3, 1) := by decide +kernel
theorem dX5_digest_82 : decode cX5_digest 82 = .ok (.invokevirtual 240, 3) := by decide +kernel
theorem dX5_digest_85 : decode cX5_digest 85 = .ok (.lstore_n 1, 1) := by decide +kernel
theorem dX5_digest_86 : decode cX5_digest 86 = .ok (.iinc 3 1, 3) := by decide +kernel
theorem dX5_digest_89 : decode cX5_digest 89 = .ok (.goto (-28), 3) := by decide +kernel
theorem dX5_digest_92 : decode cX5_digest 92 = .ok (.iconst 0, 1) := by decide +kernel
theorem dX5_digest_93 : decode cX5_digest 93 = .ok (.istore_n 3, 1) := by decide +kernel
theorem dX5_digest_94 : decode cX5_digest 94 = .ok (.iload_n 3, 1) := by decide +kernel
theorem dX5_digest_95 : decode cX5_digest 95 = .ok (.aload_n 0, 1) := by decide +kernel
theorem dX5_digest_96 : decode cX5_digest 96 = .ok (.getfield 12, 3) := by decide +kernel
theorem dX5_digest_99 : decode cX5_digest 99 = .ok (.invokevirtual 179, 3) := by decide +kernel
theorem dX5_digest_102 : decode cX5_digest 102 = .ok (.if_icmp .ge 40, 3) := by decide +kernel
theorem dX5_digest_105 : decode cX5_digest 105 = .ok (.iconst 0, 1) := by decide +kernel
theorem dX5_digest_106 : decode cX5_digest 106 = .ok (.istore 4, 2) := by decide +kernel
theorem dX5_digest_108 : decode cX5_digest 108 = .ok (.iload 4, 2) := by decide +kernel
theorem dX5_digest_110 : decode cX5_digest 110 = .ok (.iconst 2, 1) := by decide +kernel
theorem dX5_digest_111 : decode cX5_digest 111 = .ok (.if_icmp .gt 25, 3) := by decide +kernel
theorem dX5_digest_114 : decode cX5_digest 114 = .ok (.lload_n 1, 1) := by decide +kernel
theorem dX5_digest_115 : decode cX5_digest 115 = .ok (.aload_n 0, 1) := by decide +kernel
theorem dX5_digest_116 : decode cX5_digest 116 = .ok (.getfield 12, 3) := by decide +kernel
theorem dX5_digest_119 : decode cX5_digest 119 = .ok (.iload_n 3, 1) := by decide +kernel
theorem dX5_digest_120 : decode cX5_digest 120 = .ok (.iload 4, 2) := by decide +kernel
theorem dX5_digest_122 : decode cX5_digest 122 = .ok (.invokevirtual 186, 3) := by decide +kernel
theorem dX5_digest_125 : decode cX5_digest 125 = .ok (.i2l, 1) := by decide +kernel
theorem dX5_digest_126 : decode cX5_digest 126 = .ok (.invokestatic 228, 3) := by decide +kernel
theorem dX5_digest_129 : decode cX5_digest 129 = .ok (.lstore_n 1, 1) := by decide +kernel
theorem dX5_digest_130 : decode cX5_digest 130 = .ok (.iinc 4 1, 3) := by decide +kernel
theorem dX5_digest_133 : decode cX5_digest 133 = .ok (.goto (-25), 3) := by decide +kernel
theorem dX5_digest_136 : decode cX5_digest 136 = .ok (.iinc 3 1, 3) := by decide +kernel
theorem dX5_digest_139 : decode cX5_digest 139 = .ok (.goto (-45), 3) := by decide +kernel
theorem dX5_digest_142 : decode cX5_digest 142 = .ok (.lload_n 1, 1) := by decide +kernel
theorem dX5_digest_143 : decode cX5_digest 143 = .ok (.aload_n 0, 1) := by decide +kernel
theorem dX5_digest_144 : decode cX5_digest 144 = .ok (.getfield 12, 3) := by decide +kernel
theorem dX5_digest_147 : decode cX5_digest 147 = .ok (.invokevirtual 214, 3) := by decide +kernel
theorem dX5_digest_150 : decode cX5_digest 150 = .ok (.i2l, 1) := by decide +kernel
theorem dX5_digest_151 : decode cX5_digest 151 = .ok (.invokestatic 228, 3) := by decide +kernel
theorem dX5_digest_154 : decode cX5_digest 154 = .ok (.lstore_n 1, 1) := by decide +kernel
theorem dX5_digest_155 : decode cX5_digest 155 = .ok (.lload_n 1, 1) := by decide +kernel
theorem dX5_digest_156 : decode cX5_digest 156 = .ok (.aload_n 0, 1) := by decide +kernel
theorem dX5_digest_157 : decode cX5_digest 157 = .ok (.invokevirtual 243, 3) := by decide +kernel
theorem dX5_digest_160 : decode cX5_digest 160 = .ok (.invokestatic 247, 3) := by decide +kernel
theorem dX5_digest_163 : decode cX5_digest 163 = .ok (.invokestatic 228, 3) := by decide +kernel
theorem dX5_digest_166 : decode cX5_digest 166 = .ok (.lstore_n 1, 1) := by decide +kernel
theorem dX5_digest_167 : decode cX5_digest 167 = .ok (.lload_n 1, 1) := by decide +kernel
theorem dX5_digest_168 : decode cX5_digest 168 = .ok (.aload_n 0, 1) := by decide +kernel
theorem dX5_digest_169 : decode cX5_digest 169 = .ok (.getfield 29, 3) := by decide +kernel
theorem dX5_digest_172 : decode cX5_digest 172 = .ok (.invokevirtual 134, 3) := by decide +kernel
theorem dX5_digest_175 : decode cX5_digest 175 = .ok (.i2l, 1) := by decide +kernel
theorem dX5_digest_176 : decode cX5_digest 176 = .ok (.invokestatic 228, 3) := by decide +kernel
theorem dX5_digest_179 : decode cX5_digest 179 = .ok (.lstore_n 1, 1) := by decide +kernel
theorem dX5_digest_180 : decode cX5_digest 180 = .ok (.iconst 0, 1) := by decide +kernel
theorem dX5_digest_181 : decode cX5_digest 181 = .ok (.istore_n 3, 1) := by decide +kernel
theorem dX5_digest_182 : decode cX5_digest 182 = .ok (.iload_n 3, 1) := by decide +kernel
theorem dX5_digest_183 : decode cX5_digest 183 = .ok (.aload_n 0, 1) := by decide +kernel
theorem dX5_digest_184 : decode cX5_digest 184 = .ok (.getfield 29, 3) := by decide +kernel
theorem dX5_digest_187 : decode cX5_digest 187 = .ok (.invokevirtual 134, 3) := by decide +kernel
theorem dX5_digest_190 : decode cX5_digest 190 = .ok (.if_icmp .ge 23, 3) := by decide +kernel
theorem dX5_digest_193 : decode cX5_digest 193 = .ok (.lload_n 1, 1) := by decide +kernel
theorem dX5_digest_194 : decode cX5_digest 194 = .ok (.aload_n 0, 1) := by decide +kernel
theorem dX5_digest_195 : decode cX5_digest 195 = .ok (.getfield 29, 3) := by decide +kernel
theorem dX5_digest_198 : decode cX5_digest 198 = .ok (.iload_n 3, 1) := by decide +kernel
theorem dX5_digest_199 : decode cX5_digest 199 = .ok (.invokevirtual 251, 3) := by decide +kernel
theorem dX5_digest_202 : decode cX5_digest 202 = .ok (.i2l, 1) := by decide +kernel
theorem dX5_digest_203 : decode cX5_digest 203 = .ok (.invokestatic 228, 3) := by decide +kernel
theorem dX5_digest_206 : decode cX5_digest 206 = .ok (.lstore_n 1, 1) := by decide +kernel
theorem dX5_digest_207 : decode cX5_digest 207 = .ok (.iinc 3 1, 3) := by decide +kernel
theorem dX5_digest_210 : decode cX5_digest 210 = .ok (.goto (-28), 3) := by decide +kernel
theorem dX5_digest_213 : decode cX5_digest 213 = .ok (.lload_n 1, 1) := by decide +kernel
theorem dX5_digest_214 : decode cX5_digest 214 = .ok (.lreturn, 1) := by decide +kernel
theorem dX5_isOutside_0 : decode cX5_isOutside 0 = .ok (.iload_n 0, 1) := by decide +kernel
theorem dX5_isOutside_1 : decode cX5_isOutside 1 = .ok (.iload_n 1, 1) := by decide +kernel
theorem dX5_isOutside_2 : decode cX5_isOutside 2 = .ok (.if_icmp .lt 8, 3) := by decide +kernel
theorem dX5_isOutside_5 : decode cX5_isOutside 5 = .ok (.iload_n 0, 1) := by decide +kernel
theorem dX5_isOutside_6 : decode cX5_isOutside 6 = .ok (.iload_n 2, 1) := by decide +kernel
theorem dX5_isOutside_7 : decode cX5_isOutside 7 = .ok (.if_icmp .le 7, 3) := by decide +kernel
theorem dX5_isOutside_10 : decode cX5_isOutside 10 = .ok (.iconst 1, 1) := by decide +kernel
theorem dX5_isOutside_11 : decode cX5_isOutside 11 = .ok (.goto 4, 3) := by decide +kernel
theorem dX5_isOutside_14 : decode cX5_isOutside 14 = .ok (.iconst 0, 1) := by decide +kernel
theorem dX5_isOutside_15 : decode cX5_isOutside 15 = .ok (.ireturn, 1) := by decide +kernel
theorem dX5_needProject_0 : decode cX5_needProject 0 = .ok (.iload_n 1, 1) := by decide +kernel
theorem dX5_needProject_1 : decode cX5_needProject 1 = .ok (.iconst 0, 1) := by decide +kernel
theorem dX5_needProject_2 : decode cX5_needProject 2 = .ok (.aload_n 0, 1) := by decide +kernel
theorem dX5_needProject_3 : decode cX5_needProject 3 = .ok (.getfield 12, 3) := by decide +kernel
theorem dX5_needProject_6 : decode cX5_needProject 6 = .ok (.invokevirtual 44, 3) := by decide +kernel
theorem dX5_needProject_9 : decode cX5_needProject 9 = .ok (.iconst 1, 1) := by decide +kernel
theorem dX5_needProject_10 : decode cX5_needProject 10 = .ok (.isub, 1) := by decide +kernel
theorem dX5_needProject_11 : decode cX5_needProject 11 = .ok (.invokestatic 33, 3) := by decide +kernel
theorem dX5_needProject_14 : decode cX5_needProject 14 = .ok (.ifCond .eq 13, 3) := by decide +kernel
theorem dX5_needProject_17 : decode cX5_needProject 17 = .ok (.new 170, 3) := by decide +kernel
theorem dX5_needProject_20 : decode cX5_needProject 20 = .ok (.dup, 1) := by decide +kernel
theorem dX5_needProject_21 : decode cX5_needProject 21 = .ok (.ldc 254, 2) := by decide +kernel
theorem dX5_needProject_23 : decode cX5_needProject 23 = .ok (.invokespecial 174, 3) := by decide +kernel
theorem dX5_needProject_26 : decode cX5_needProject 26 = .ok (.athrow, 1) := by decide +kernel
theorem dX5_needProject_27 : decode cX5_needProject 27 = .ok (.return_, 1) := by decide +kernel
theorem dX5_needSetting_0 : decode cX5_needSetting 0 = .ok (.iload_n 0, 1) := by decide +kernel
theorem dX5_needSetting_1 : decode cX5_needSetting 1 = .ok (.iconst 0, 1) := by decide +kernel
theorem dX5_needSetting_2 : decode cX5_needSetting 2 = .ok (.getstatic 232, 3) := by decide +kernel
theorem dX5_needSetting_5 : decode cX5_needSetting 5 = .ok (.arraylength, 1) := by decide +kernel
theorem dX5_needSetting_6 : decode cX5_needSetting 6 = .ok (.iconst 1, 1) := by decide +kernel
theorem dX5_needSetting_7 : decode cX5_needSetting 7 = .ok (.isub, 1) := by decide +kernel
theorem dX5_needSetting_8 : decode cX5_needSetting 8 = .ok (.invokestatic 33, 3) := by decide +kernel
theorem dX5_needSetting_11 : decode cX5_needSetting 11 = .ok (.ifCond .eq 14, 3) := by decide +kernel
theorem dX5_needSetting_14 : decode cX5_needSetting 14 = .ok (.new 170, 3) := by decide +kernel
theorem dX5_needSetting_17 : decode cX5_needSetting 17 = .ok (.dup, 1) := by decide +kernel
theorem dX5_needSetting_18 : decode cX5_needSetting 18 = .ok (.ldc_w 256, 3) := by decide +kernel
theorem dX5_needSetting_21 : decode cX5_needSetting 21 = .ok (.invokespecial 174, 3) := by decide +kernel
theorem dX5_needSetting_24 : decode cX5_needSetting 24 = .ok (.athrow, 1) := by decide +kernel
theorem dX5_needSetting_25 : decode cX5_needSetting 25 = .ok (.return_, 1) := by decide +kernel
theorem dX5_needDaysTaken_0 : decode cX5_needDaysTaken 0 = .ok (.iload_n 0, 1) := by decide +kernel
theorem dX5_needDaysTaken_1 : decode cX5_needDaysTaken 1 = .ok (.iconst 0, 1) := by decide +kernel
theorem dX5_needDaysTaken_2 : decode cX5_needDaysTaken 2 = .ok (.sipush 300, 3) := by decide +kernel
theorem dX5_needDaysTaken_5 : decode cX5_needDaysTaken 5 = .ok (.invokestatic 33, 3) := by decide +kernel
theorem dX5_needDaysTaken_8 : decode cX5_needDaysTaken 8 = .ok (.ifCond .eq 13, 3) := by decide +kernel
theorem dX5_needDaysTaken_11 : decode cX5_needDaysTaken 11 = .ok (.new 37, 3) := by decide +kernel
theorem dX5_needDaysTaken_14 : decode cX5_needDaysTaken 14 = .ok (.dup, 1) := by decide +kernel
theorem dX5_needDaysTaken_15 : decode cX5_needDaysTaken 15 = .ok (.ldc 65, 2) := by decide +kernel
theorem dX5_needDaysTaken_17 : decode cX5_needDaysTaken 17 = .ok (.invokespecial 41, 3) := by decide +kernel
theorem dX5_needDaysTaken_20 : decode cX5_needDaysTaken 20 = .ok (.athrow, 1) := by decide +kernel
theorem dX5_needDaysTaken_21 : decode cX5_needDaysTaken 21 = .ok (.return_, 1) := by decide +kernel
theorem dX5_greatestValue_0 : decode cX5_greatestValue 0 = .ok (.iload_n 0, 1) := by decide +kernel
theorem dX5_greatestValue_1 : decode cX5_greatestValue 1 = .ok (.ifCond .lt 19, 3) := by decide +kernel
theorem dX5_greatestValue_4 : decode cX5_greatestValue 4 = .ok (.iload_n 0, 1) := by decide +kernel
theorem dX5_greatestValue_5 : decode cX5_greatestValue 5 = .ok (.getstatic 232, 3) := by decide +kernel
theorem dX5_greatestValue_8 : decode cX5_greatestValue 8 = .ok (.arraylength, 1) := by decide +kernel
theorem dX5_greatestValue_9 : decode cX5_greatestValue 9 = .ok (.if_icmp .ge 11, 3) := by decide +kernel
theorem dX5_greatestValue_12 : decode cX5_greatestValue 12 = .ok (.getstatic 232, 3) := by decide +kernel
theorem dX5_greatestValue_15 : decode cX5_greatestValue 15 = .ok (.iload_n 0, 1) := by decide +kernel
theorem dX5_greatestValue_16 : decode cX5_greatestValue 16 = .ok (.iaload, 1) := by decide +kernel
theorem dX5_greatestValue_17 : decode cX5_greatestValue 17 = .ok (.goto 4, 3) := by decide +kernel
theorem dX5_greatestValue_20 : decode cX5_greatestValue 20 = .ok (.iconst 0, 1) := by decide +kernel
theorem dX5_greatestValue_21 : decode cX5_greatestValue 21 = .ok (.ireturn, 1) := by decide +kernel
theorem dX5_numberOf_0 : decode cX5_numberOf 0 = .ok (.iload_n 1, 1) := by decide +kernel
theorem dX5_numberOf_1 : decode cX5_numberOf 1 = .ok (.tableswitch 133 0 8 #[51, 59, 69, 77, 86, 95, 105, 115, 123], 51) := by decide +kernel
theorem dX5_numberOf_52 : decode cX5_numberOf 52 = .ok (.aload_n 0, 1) := by decide +kernel
theorem dX5_numberOf_53 : decode cX5_numberOf 53 = .ok (.getfield 12, 3) := by decide +kernel
theorem dX5_numberOf_56 : decode cX5_numberOf 56 = .ok (.invokevirtual 44, 3) := by decide +kernel
theorem dX5_numberOf_59 : decode cX5_numberOf 59 = .ok (.ireturn, 1) := by decide +kernel
theorem dX5_numberOf_60 : decode cX5_numberOf 60 = .ok (.aload_n 0, 1) := by decide +kernel
theorem dX5_numberOf_61 : decode cX5_numberOf 61 = .ok (.getfield 12, 3) := by decide +kernel
theorem dX5_numberOf_64 : decode cX5_numberOf 64 = .ok (.bipush 9, 2) := by decide +kernel
theorem dX5_numberOf_66 : decode cX5_numberOf 66 = .ok (.invokevirtual 223, 3) := by decide +kernel
theorem dX5_numberOf_69 : decode cX5_numberOf 69 = .ok (.ireturn, 1) := by decide +kernel
theorem dX5_numberOf_70 : decode cX5_numberOf 70 = .ok (.aload_n 0, 1) := by decide +kernel
theorem dX5_numberOf_71 : decode cX5_numberOf 71 = .ok (.getfield 12, 3) := by decide +kernel
theorem dX5_numberOf_74 : decode cX5_numberOf 74 = .ok (.invokevirtual 179, 3) := by decide +kernel
theorem dX5_numberOf_77 : decode cX5_numberOf 77 = .ok (.ireturn, 1) := by decide +kernel
theorem dX5_numberOf_78 : decode cX5_numberOf 78 = .ok (.aload_n 0, 1) := by decide +kernel
theorem dX5_numberOf_79 : decode cX5_numberOf 79 = .ok (.getfield 12, 3) := by decide +kernel
theorem dX5_numberOf_82 : decode cX5_numberOf 82 = .ok (.iconst 4, 1) := by decide +kernel
theorem dX5_numberOf_83 : decode cX5_numberOf 83 = .ok (.invokevirtual 223, 3) := by decide +kernel
theorem dX5_numberOf_86 : decode cX5_numberOf 86 = .ok (.ireturn, 1) := by decide +kernel
theorem dX5_numberOf_87 : decode cX5_numberOf 87 = .ok (.aload_n 0, 1) := by decide +kernel
theorem dX5_numberOf_88 : decode cX5_numberOf 88 = .ok (.getfield 12, 3) := by decide +kernel
theorem dX5_numberOf_91 : decode cX5_numberOf 91 = .ok (.iconst 2, 1) := by decide +kernel
theorem dX5_numberOf_92 : decode cX5_numberOf 92 = .ok (.invokevirtual 223, 3) := by decide +kernel
theorem dX5_numberOf_95 : decode cX5_numberOf 95 = .ok (.ireturn, 1) := by decide +kernel
theorem dX5_numberOf_96 : decode cX5_numberOf 96 = .ok (.aload_n 0, 1) := by decide +kernel
theorem dX5_numberOf_97 : decode cX5_numberOf 97 = .ok (.getfield 12, 3) := by decide +kernel
theorem dX5_numberOf_100 : decode cX5_numberOf 100 = .ok (.bipush 6, 2) := by decide +kernel
theorem dX5_numberOf_102 : decode cX5_numberOf 102 = .ok (.invokevirtual 223, 3) := by decide +kernel
theorem dX5_numberOf_105 : decode cX5_numberOf 105 = .ok (.ireturn, 1) := by decide +kernel
theorem dX5_numberOf_106 : decode cX5_numberOf 106 = .ok (.aload_n 0, 1) := by decide +kernel
theorem dX5_numberOf_107 : decode cX5_numberOf 107 = .ok (.getfield 12, 3) := by decide +kernel
theorem dX5_numberOf_110 : decode cX5_numberOf 110 = .ok (.bipush 8, 2) := by decide +kernel
theorem dX5_numberOf_112 : decode cX5_numberOf 112 = .ok (.invokevirtual 223, 3) := by decide +kernel
theorem dX5_numberOf_115 : decode cX5_numberOf 115 = .ok (.ireturn, 1) := by decide +kernel
theorem dX5_numberOf_116 : decode cX5_numberOf 116 = .ok (.aload_n 0, 1) := by decide +kernel
theorem dX5_numberOf_117 : decode cX5_numberOf 117 = .ok (.getfield 12, 3) := by decide +kernel
theorem dX5_numberOf_120 : decode cX5_numberOf 120 = .ok (.invokevirtual 220, 3) := by decide +kernel
theorem dX5_numberOf_123 : decode cX5_numberOf 123 = .ok (.ireturn, 1) := by decide +kernel
theorem dX5_numberOf_124 : decode cX5_numberOf 124 = .ok (.aload_n 0, 1) := by decide +kernel
theorem dX5_numberOf_125 : decode cX5_numberOf 125 = .ok (.getfield 12, 3) := by decide +kernel
theorem dX5_numberOf_128 : decode cX5_numberOf 128 = .ok (.bipush 10, 2) := by decide +kernel
theorem dX5_numberOf_130 : decode cX5_numberOf 130 = .ok (.invokevirtual 223, 3) := by decide +kernel
theorem dX5_numberOf_133 : decode cX5_numberOf 133 = .ok (.ireturn, 1) := by decide +kernel
theorem dX5_numberOf_134 : decode cX5_numberOf 134 = .ok (.aload_n 0, 1) := by decide +kernel
theorem dX5_numberOf_135 : decode cX5_numberOf 135 = .ok (.getfield 22, 3) := by decide +kernel
theorem dX5_numberOf_138 : decode cX5_numberOf 138 = .ok (.invokevirtual 160, 3) := by decide +kernel
theorem dX5_numberOf_141 : decode cX5_numberOf 141 = .ok (.ireturn, 1) := by decide +kernel
theorem dX5_openProjectsOfText_0 : decode cX5_openProjectsOfText 0 = .ok (.iconst 0, 1) := by decide +kernel
theorem dX5_openProjectsOfText_1 : decode cX5_openProjectsOfText 1 = .ok (.istore_n 1, 1) := by decide +kernel
theorem dX5_openProjectsOfText_2 : decode cX5_openProjectsOfText 2 = .ok (.iconst 0, 1) := by decide +kernel
theorem dX5_openProjectsOfText_3 : decode cX5_openProjectsOfText 3 = .ok (.istore_n 2, 1) := by decide +kernel
end
section
theorem dX5_openProjectsOfText_4 : decode cX5_openProjectsOfText 4 = .ok (.iconst 0, 1) := by decide +kernel
theorem dX5_openProjectsOfText_5 : decode cX5_openProjectsOfText 5 = .ok (.istore_n 3, 1) := by decide +kernel
theorem dX5_openProjectsOfText_6 : decode cX5_openProjectsOfText 6 = .ok (.iload_n 3, 1) := by decide +kernel
theorem dX5_openProjectsOfText_7 : decode cX5_openProjectsOfText 7 = .ok (.aload_n 0, 1) := by decide +kernel
theorem dX5_openProjectsOfText_8 : decode cX5_openProjectsOfText 8 = .ok (.getfield 29, 3) := by decide +kernel
theorem dX5_openProjectsOfText_11 : decode cX5_openProjectsOfText 11 = .ok (.invokevirtual 134, 3) := by decide +kernel
theorem dX5_openProjectsOfText_14 : decode cX5_openProjectsOfText 14 = .ok (.if_icmp .gt 108, 3) := by decide +kernel
theorem dX5_openProjectsOfText_17 : decode cX5_openProjectsOfText 17 = .ok (.iload_n 3, 1) := by decide +kernel
theorem dX5_openProjectsOfText_18 : decode cX5_openProjectsOfText 18 = .ok (.aload_n 0, 1) := by decide +kernel
theorem dX5_openProjectsOfText_19 : decode cX5_openProjectsOfText 19 = .ok (.getfield 29, 3) := by decide +kernel
theorem dX5_openProjectsOfText_22 : decode cX5_openProjectsOfText 22 = .ok (.invokevirtual 134, 3) := by decide +kernel
theorem dX5_openProjectsOfText_25 : decode cX5_openProjectsOfText 25 = .ok (.if_icmp .ge 14, 3) := by decide +kernel
theorem dX5_openProjectsOfText_28 : decode cX5_openProjectsOfText 28 = .ok (.aload_n 0, 1) := by decide +kernel
theorem dX5_openProjectsOfText_29 : decode cX5_openProjectsOfText 29 = .ok (.getfield 29, 3) := by decide +kernel
theorem dX5_openProjectsOfText_32 : decode cX5_openProjectsOfText 32 = .ok (.iload_n 3, 1) := by decide +kernel
theorem dX5_openProjectsOfText_33 : decode cX5_openProjectsOfText 33 = .ok (.invokevirtual 251, 3) := by decide +kernel
theorem dX5_openProjectsOfText_36 : decode cX5_openProjectsOfText 36 = .ok (.goto 5, 3) := by decide +kernel
theorem dX5_openProjectsOfText_39 : decode cX5_openProjectsOfText 39 = .ok (.bipush 59, 2) := by decide +kernel
theorem dX5_openProjectsOfText_41 : decode cX5_openProjectsOfText 41 = .ok (.istore 4, 2) := by decide +kernel
theorem dX5_openProjectsOfText_43 : decode cX5_openProjectsOfText 43 = .ok (.iload 4, 2) := by decide +kernel
theorem dX5_openProjectsOfText_45 : decode cX5_openProjectsOfText 45 = .ok (.invokestatic 258, 3) := by decide +kernel
theorem dX5_openProjectsOfText_48 : decode cX5_openProjectsOfText 48 = .ok (.ifCond .eq 17, 3) := by decide +kernel
theorem dX5_openProjectsOfText_51 : decode cX5_openProjectsOfText 51 = .ok (.iload_n 2, 1) := by decide +kernel
theorem dX5_openProjectsOfText_52 : decode cX5_openProjectsOfText 52 = .ok (.bipush 10, 2) := by decide +kernel
theorem dX5_openProjectsOfText_54 : decode cX5_openProjectsOfText 54 = .ok (.imul, 1) := by decide +kernel
theorem dX5_openProjectsOfText_55 : decode cX5_openProjectsOfText 55 = .ok (.iload 4, 2) := by decide +kernel
theorem dX5_openProjectsOfText_57 : decode cX5_openProjectsOfText 57 = .ok (.bipush 48, 2) := by decide +kernel
theorem dX5_openProjectsOfText_59 : decode cX5_openProjectsOfText 59 = .ok (.isub, 1) := by decide +kernel
theorem dX5_openProjectsOfText_60 : decode cX5_openProjectsOfText 60 = .ok (.iadd, 1) := by decide +kernel
theorem dX5_openProjectsOfText_61 : decode cX5_openProjectsOfText 61 = .ok (.istore_n 2, 1) := by decide +kernel
theorem dX5_openProjectsOfText_62 : decode cX5_openProjectsOfText 62 = .ok (.goto 54, 3) := by decide +kernel
theorem dX5_openProjectsOfText_65 : decode cX5_openProjectsOfText 65 = .ok (.iload 4, 2) := by decide +kernel
theorem dX5_openProjectsOfText_67 : decode cX5_openProjectsOfText 67 = .ok (.bipush 58, 2) := by decide +kernel
theorem dX5_openProjectsOfText_69 : decode cX5_openProjectsOfText 69 = .ok (.if_icmp .eq 24, 3) := by decide +kernel
theorem dX5_openProjectsOfText_72 : decode cX5_openProjectsOfText 72 = .ok (.aload_n 0, 1) := by decide +kernel
theorem dX5_openProjectsOfText_73 : decode cX5_openProjectsOfText 73 = .ok (.getfield 12, 3) := by decide +kernel
theorem dX5_openProjectsOfText_76 : decode cX5_openProjectsOfText 76 = .ok (.aload_n 0, 1) := by decide +kernel
theorem dX5_openProjectsOfText_77 : decode cX5_openProjectsOfText 77 = .ok (.getfield 12, 3) := by decide +kernel
theorem dX5_openProjectsOfText_80 : decode cX5_openProjectsOfText 80 = .ok (.invokevirtual 44, 3) := by decide +kernel
theorem dX5_openProjectsOfText_83 : decode cX5_openProjectsOfText 83 = .ok (.iconst 1, 1) := by decide +kernel
theorem dX5_openProjectsOfText_84 : decode cX5_openProjectsOfText 84 = .ok (.isub, 1) := by decide +kernel
theorem dX5_openProjectsOfText_85 : decode cX5_openProjectsOfText 85 = .ok (.iload_n 2, 1) := by decide +kernel
theorem dX5_openProjectsOfText_86 : decode cX5_openProjectsOfText 86 = .ok (.invokevirtual 76, 3) := by decide +kernel
theorem dX5_openProjectsOfText_89 : decode cX5_openProjectsOfText 89 = .ok (.pop, 1) := by decide +kernel
theorem dX5_openProjectsOfText_90 : decode cX5_openProjectsOfText 90 = .ok (.goto 24, 3) := by decide +kernel
theorem dX5_openProjectsOfText_93 : decode cX5_openProjectsOfText 93 = .ok (.iload_n 1, 1) := by decide +kernel
theorem dX5_openProjectsOfText_94 : decode cX5_openProjectsOfText 94 = .ok (.ifCond .ne 8, 3) := by decide +kernel
theorem dX5_openProjectsOfText_97 : decode cX5_openProjectsOfText 97 = .ok (.iload_n 2, 1) := by decide +kernel
theorem dX5_openProjectsOfText_98 : decode cX5_openProjectsOfText 98 = .ok (.istore_n 1, 1) := by decide +kernel
theorem dX5_openProjectsOfText_99 : decode cX5_openProjectsOfText 99 = .ok (.goto 15, 3) := by decide +kernel
theorem dX5_openProjectsOfText_102 : decode cX5_openProjectsOfText 102 = .ok (.aload_n 0, 1) := by decide +kernel
theorem dX5_openProjectsOfText_103 : decode cX5_openProjectsOfText 103 = .ok (.getfield 12, 3) := by decide +kernel
theorem dX5_openProjectsOfText_106 : decode cX5_openProjectsOfText 106 = .ok (.iload_n 1, 1) := by decide +kernel
theorem dX5_openProjectsOfText_107 : decode cX5_openProjectsOfText 107 = .ok (.iload_n 2, 1) := by decide +kernel
theorem dX5_openProjectsOfText_108 : decode cX5_openProjectsOfText 108 = .ok (.invokevirtual 57, 3) := by decide +kernel
theorem dX5_openProjectsOfText_111 : decode cX5_openProjectsOfText 111 = .ok (.pop, 1) := by decide +kernel
theorem dX5_openProjectsOfText_112 : decode cX5_openProjectsOfText 112 = .ok (.iconst 0, 1) := by decide +kernel
theorem dX5_openProjectsOfText_113 : decode cX5_openProjectsOfText 113 = .ok (.istore_n 1, 1) := by decide +kernel
theorem dX5_openProjectsOfText_114 : decode cX5_openProjectsOfText 114 = .ok (.iconst 0, 1) := by decide +kernel
theorem dX5_openProjectsOfText_115 : decode cX5_openProjectsOfText 115 = .ok (.istore_n 2, 1) := by decide +kernel
theorem dX5_openProjectsOfText_116 : decode cX5_openProjectsOfText 116 = .ok (.iinc 3 1, 3) := by decide +kernel
theorem dX5_openProjectsOfText_119 : decode cX5_openProjectsOfText 119 = .ok (.goto (-113), 3) := by decide +kernel
theorem dX5_openProjectsOfText_122 : decode cX5_openProjectsOfText 122 = .ok (.return_, 1) := by decide +kernel
theorem dX5_tryNextTask_0 : decode cX5_tryNextTask 0 = .ok (.aload_n 0, 1) := by decide +kernel
theorem dX5_tryNextTask_1 : decode cX5_tryNextTask 1 = .ok (.getfield 12, 3) := by decide +kernel
theorem dX5_tryNextTask_4 : decode cX5_tryNextTask 4 = .ok (.iload_n 1, 1) := by decide +kernel
theorem dX5_tryNextTask_5 : decode cX5_tryNextTask 5 = .ok (.invokevirtual 99, 3) := by decide +kernel
theorem dX5_tryNextTask_8 : decode cX5_tryNextTask 8 = .ok (.ifCond .ne 5, 3) := by decide +kernel
theorem dX5_tryNextTask_11 : decode cX5_tryNextTask 11 = .ok (.iconst 0, 1) := by decide +kernel
theorem dX5_tryNextTask_12 : decode cX5_tryNextTask 12 = .ok (.ireturn, 1) := by decide +kernel
theorem dX5_tryNextTask_13 : decode cX5_tryNextTask 13 = .ok (.aload_n 0, 1) := by decide +kernel
theorem dX5_tryNextTask_14 : decode cX5_tryNextTask 14 = .ok (.getfield 16, 3) := by decide +kernel
theorem dX5_tryNextTask_17 : decode cX5_tryNextTask 17 = .ok (.aload_n 0, 1) := by decide +kernel
theorem dX5_tryNextTask_18 : decode cX5_tryNextTask 18 = .ok (.getfield 12, 3) := by decide +kernel
theorem dX5_tryNextTask_21 : decode cX5_tryNextTask 21 = .ok (.invokevirtual 263, 3) := by decide +kernel
theorem dX5_tryNextTask_24 : decode cX5_tryNextTask 24 = .ok (.aload_n 0, 1) := by decide +kernel
theorem dX5_tryNextTask_25 : decode cX5_tryNextTask 25 = .ok (.getfield 16, 3) := by decide +kernel
theorem dX5_tryNextTask_28 : decode cX5_tryNextTask 28 = .ok (.iload_n 1, 1) := by decide +kernel
theorem dX5_tryNextTask_29 : decode cX5_tryNextTask 29 = .ok (.iload_n 2, 1) := by decide +kernel
theorem dX5_tryNextTask_30 : decode cX5_tryNextTask 30 = .ok (.invokevirtual 104, 3) := by decide +kernel
theorem dX5_tryNextTask_33 : decode cX5_tryNextTask 33 = .ok (.pop, 1) := by decide +kernel
theorem dX5_tryNextTask_34 : decode cX5_tryNextTask 34 = .ok (.iconst 1, 1) := by decide +kernel
theorem dX5_tryNextTask_35 : decode cX5_tryNextTask 35 = .ok (.ireturn, 1) := by decide +kernel
theorem dX5_resultOfTrial_0 : decode cX5_resultOfTrial 0 = .ok (.aload_n 0, 1) := by decide +kernel
theorem dX5_resultOfTrial_1 : decode cX5_resultOfTrial 1 = .ok (.getfield 16, 3) := by decide +kernel
theorem dX5_resultOfTrial_4 : decode cX5_resultOfTrial 4 = .ok (.iload_n 1, 1) := by decide +kernel
theorem dX5_resultOfTrial_5 : decode cX5_resultOfTrial 5 = .ok (.bipush 8, 2) := by decide +kernel
theorem dX5_resultOfTrial_7 : decode cX5_resultOfTrial 7 = .ok (.invokevirtual 71, 3) := by decide +kernel
theorem dX5_resultOfTrial_10 : decode cX5_resultOfTrial 10 = .ok (.iconst 1, 1) := by decide +kernel
theorem dX5_resultOfTrial_11 : decode cX5_resultOfTrial 11 = .ok (.isub, 1) := by decide +kernel
theorem dX5_resultOfTrial_12 : decode cX5_resultOfTrial 12 = .ok (.istore_n 3, 1) := by decide +kernel
theorem dX5_resultOfTrial_13 : decode cX5_resultOfTrial 13 = .ok (.iload_n 2, 1) := by decide +kernel
theorem dX5_resultOfTrial_14 : decode cX5_resultOfTrial 14 = .ok (.tableswitch 73 0 3 #[30, 41, 52, 63], 30) := by decide +kernel
theorem dX5_resultOfTrial_44 : decode cX5_resultOfTrial 44 = .ok (.aload_n 0, 1) := by decide +kernel
theorem dX5_resultOfTrial_45 : decode cX5_resultOfTrial 45 = .ok (.getfield 16, 3) := by decide +kernel
theorem dX5_resultOfTrial_48 : decode cX5_resultOfTrial 48 = .ok (.iload_n 1, 1) := by decide +kernel
theorem dX5_resultOfTrial_49 : decode cX5_resultOfTrial 49 = .ok (.iload_n 3, 1) := by decide +kernel
theorem dX5_resultOfTrial_50 : decode cX5_resultOfTrial 50 = .ok (.iconst 5, 1) := by decide +kernel
theorem dX5_resultOfTrial_51 : decode cX5_resultOfTrial 51 = .ok (.invokevirtual 175, 3) := by decide +kernel
theorem dX5_resultOfTrial_54 : decode cX5_resultOfTrial 54 = .ok (.ireturn, 1) := by decide +kernel
theorem dX5_resultOfTrial_55 : decode cX5_resultOfTrial 55 = .ok (.aload_n 0, 1) := by decide +kernel
theorem dX5_resultOfTrial_56 : decode cX5_resultOfTrial 56 = .ok (.getfield 16, 3) := by decide +kernel
theorem dX5_resultOfTrial_59 : decode cX5_resultOfTrial 59 = .ok (.iload_n 1, 1) := by decide +kernel
theorem dX5_resultOfTrial_60 : decode cX5_resultOfTrial 60 = .ok (.iload_n 3, 1) := by decide +kernel
theorem dX5_resultOfTrial_61 : decode cX5_resultOfTrial 61 = .ok (.iconst 4, 1) := by decide +kernel
theorem dX5_resultOfTrial_62 : decode cX5_resultOfTrial 62 = .ok (.invokevirtual 175, 3) := by decide +kernel
theorem dX5_resultOfTrial_65 : decode cX5_resultOfTrial 65 = .ok (.ireturn, 1) := by decide +kernel
theorem dX5_resultOfTrial_66 : decode cX5_resultOfTrial 66 = .ok (.aload_n 0, 1) := by decide +kernel
theorem dX5_resultOfTrial_67 : decode cX5_resultOfTrial 67 = .ok (.getfield 16, 3) := by decide +kernel
theorem dX5_resultOfTrial_70 : decode cX5_resultOfTrial 70 = .ok (.iload_n 1, 1) := by decide +kernel
theorem dX5_resultOfTrial_71 : decode cX5_resultOfTrial 71 = .ok (.iload_n 3, 1) := by decide +kernel
theorem dX5_resultOfTrial_72 : decode cX5_resultOfTrial 72 = .ok (.iconst 3, 1) := by decide +kernel
theorem dX5_resultOfTrial_73 : decode cX5_resultOfTrial 73 = .ok (.invokevirtual 175, 3) := by decide +kernel
theorem dX5_resultOfTrial_76 : decode cX5_resultOfTrial 76 = .ok (.ireturn, 1) := by decide +kernel
theorem dX5_resultOfTrial_77 : decode cX5_resultOfTrial 77 = .ok (.aload_n 0, 1) := by decide +kernel
theorem dX5_resultOfTrial_78 : decode cX5_resultOfTrial 78 = .ok (.getfield 16, 3) := by decide +kernel
theorem dX5_resultOfTrial_81 : decode cX5_resultOfTrial 81 = .ok (.iload_n 1, 1) := by decide +kernel
theorem dX5_resultOfTrial_82 : decode cX5_resultOfTrial 82 = .ok (.iconst 2, 1) := by decide +kernel
theorem dX5_resultOfTrial_83 : decode cX5_resultOfTrial 83 = .ok (.invokevirtual 71, 3) := by decide +kernel
theorem dX5_resultOfTrial_86 : decode cX5_resultOfTrial 86 = .ok (.ireturn, 1) := by decide +kernel
theorem dX5_resultOfTrial_87 : decode cX5_resultOfTrial 87 = .ok (.aload_n 0, 1) := by decide +kernel
theorem dX5_resultOfTrial_88 : decode cX5_resultOfTrial 88 = .ok (.getfield 16, 3) := by decide +kernel
theorem dX5_resultOfTrial_91 : decode cX5_resultOfTrial 91 = .ok (.iload_n 1, 1) := by decide +kernel
theorem dX5_resultOfTrial_92 : decode cX5_resultOfTrial 92 = .ok (.iconst 4, 1) := by decide +kernel
theorem dX5_resultOfTrial_93 : decode cX5_resultOfTrial 93 = .ok (.invokevirtual 71, 3) := by decide +kernel
theorem dX5_resultOfTrial_96 : decode cX5_resultOfTrial 96 = .ok (.ireturn, 1) := by decide +kernel
theorem dX5_bestRuleFor_0 : decode cX5_bestRuleFor 0 = .ok (.aload_n 0, 1) := by decide +kernel
theorem dX5_bestRuleFor_1 : decode cX5_bestRuleFor 1 = .ok (.getfield 12, 3) := by decide +kernel
theorem dX5_bestRuleFor_4 : decode cX5_bestRuleFor 4 = .ok (.iload_n 1, 1) := by decide +kernel
theorem dX5_bestRuleFor_5 : decode cX5_bestRuleFor 5 = .ok (.invokevirtual 99, 3) := by decide +kernel
theorem dX5_bestRuleFor_8 : decode cX5_bestRuleFor 8 = .ok (.ifCond .ne 5, 3) := by decide +kernel
theorem dX5_bestRuleFor_11 : decode cX5_bestRuleFor 11 = .ok (.iconst (-1), 1) := by decide +kernel
theorem dX5_bestRuleFor_12 : decode cX5_bestRuleFor 12 = .ok (.ireturn, 1) := by decide +kernel
theorem dX5_bestRuleFor_13 : decode cX5_bestRuleFor 13 = .ok (.iconst (-1), 1) := by decide +kernel
theorem dX5_bestRuleFor_14 : decode cX5_bestRuleFor 14 = .ok (.istore_n 3, 1) := by decide +kernel
theorem dX5_bestRuleFor_15 : decode cX5_bestRuleFor 15 = .ok (.iconst (-1), 1) := by decide +kernel
theorem dX5_bestRuleFor_16 : decode cX5_bestRuleFor 16 = .ok (.istore 4, 2) := by decide +kernel
theorem dX5_bestRuleFor_18 : decode cX5_bestRuleFor 18 = .ok (.iconst 0, 1) := by decide +kernel
theorem dX5_bestRuleFor_19 : decode cX5_bestRuleFor 19 = .ok (.istore 5, 2) := by decide +kernel
theorem dX5_bestRuleFor_21 : decode cX5_bestRuleFor 21 = .ok (.iload 5, 2) := by decide +kernel
theorem dX5_bestRuleFor_23 : decode cX5_bestRuleFor 23 = .ok (.iconst 0, 1) := by decide +kernel
theorem dX5_bestRuleFor_24 : decode cX5_bestRuleFor 24 = .ok (.invokestatic 87, 3) := by decide +kernel
theorem dX5_bestRuleFor_27 : decode cX5_bestRuleFor 27 = .ok (.if_icmp .gt 64, 3) := by decide +kernel
theorem dX5_bestRuleFor_30 : decode cX5_bestRuleFor 30 = .ok (.aload_n 0, 1) := by decide +kernel
theorem dX5_bestRuleFor_31 : decode cX5_bestRuleFor 31 = .ok (.getfield 16, 3) := by decide +kernel
theorem dX5_bestRuleFor_34 : decode cX5_bestRuleFor 34 = .ok (.aload_n 0, 1) := by decide +kernel
theorem dX5_bestRuleFor_35 : decode cX5_bestRuleFor 35 = .ok (.getfield 12, 3) := by decide +kernel
theorem dX5_bestRuleFor_38 : decode cX5_bestRuleFor 38 = .ok (.invokevirtual 263, 3) := by decide +kernel
theorem dX5_bestRuleFor_41 : decode cX5_bestRuleFor 41 = .ok (.aload_n 0, 1) := by decide +kernel
theorem dX5_bestRuleFor_42 : decode cX5_bestRuleFor 42 = .ok (.getfield 16, 3) := by decide +kernel
theorem dX5_bestRuleFor_45 : decode cX5_bestRuleFor 45 = .ok (.iconst 0, 1) := by decide +kernel
theorem dX5_bestRuleFor_46 : decode cX5_bestRuleFor 46 = .ok (.iload 5, 2) := by decide +kernel
theorem dX5_bestRuleFor_48 : decode cX5_bestRuleFor 48 = .ok (.invokevirtual 93, 3) := by decide +kernel
theorem dX5_bestRuleFor_51 : decode cX5_bestRuleFor 51 = .ok (.pop, 1) := by decide +kernel
theorem dX5_bestRuleFor_52 : decode cX5_bestRuleFor 52 = .ok (.aload_n 0, 1) := by decide +kernel
theorem dX5_bestRuleFor_53 : decode cX5_bestRuleFor 53 = .ok (.getfield 16, 3) := by decide +kernel
theorem dX5_bestRuleFor_56 : decode cX5_bestRuleFor 56 = .ok (.iload_n 1, 1) := by decide +kernel
theorem dX5_bestRuleFor_57 : decode cX5_bestRuleFor 57 = .ok (.iload_n 2, 1) := by decide +kernel
theorem dX5_bestRuleFor_58 : decode cX5_bestRuleFor 58 = .ok (.invokevirtual 104, 3) := by decide +kernel
theorem dX5_bestRuleFor_61 : decode cX5_bestRuleFor 61 = .ok (.pop, 1) := by decide +kernel
theorem dX5_bestRuleFor_62 : decode cX5_bestRuleFor 62 = .ok (.aload_n 0, 1) := by decide +kernel
theorem dX5_bestRuleFor_63 : decode cX5_bestRuleFor 63 = .ok (.getfield 16, 3) := by decide +kernel
theorem dX5_bestRuleFor_66 : decode cX5_bestRuleFor 66 = .ok (.invokevirtual 266, 3) := by decide +kernel
theorem dX5_bestRuleFor_69 : decode cX5_bestRuleFor 69 = .ok (.istore 6, 2) := by decide +kernel
theorem dX5_bestRuleFor_71 : decode cX5_bestRuleFor 71 = .ok (.iload 6, 2) := by decide +kernel
theorem dX5_bestRuleFor_73 : decode cX5_bestRuleFor 73 = .ok (.iload 4, 2) := by decide +kernel
theorem dX5_bestRuleFor_75 : decode cX5_bestRuleFor 75 = .ok (.if_icmp .le 10, 3) := by decide +kernel
theorem dX5_bestRuleFor_78 : decode cX5_bestRuleFor 78 = .ok (.iload 6, 2) := by decide +kernel
theorem dX5_bestRuleFor_80 : decode cX5_bestRuleFor 80 = .ok (.istore 4, 2) := by decide +kernel
theorem dX5_bestRuleFor_82 : decode cX5_bestRuleFor 82 = .ok (.iload 5, 2) := by decide +kernel
theorem dX5_bestRuleFor_84 : decode cX5_bestRuleFor 84 = .ok (.istore_n 3, 1) := by decide +kernel
theorem dX5_bestRuleFor_85 : decode cX5_bestRuleFor 85 = .ok (.iinc 5 1, 3) := by decide +kernel
theorem dX5_bestRuleFor_88 : decode cX5_bestRuleFor 88 = .ok (.goto (-67), 3) := by decide +kernel
theorem dX5_bestRuleFor_91 : decode cX5_bestRuleFor 91 = .ok (.iload_n 3, 1) := by decide +kernel
theorem dX5_bestRuleFor_92 : decode cX5_bestRuleFor 92 = .ok (.ireturn, 1) := by decide +kernel
theorem dX5_mix_0 : decode cX5_mix 0 = .ok (.ldc2_w 269, 3) := by decide +kernel
theorem dX5_mix_3 : decode cX5_mix 3 = .ok (.lload_n 0, 1) := by decide +kernel
theorem dX5_mix_4 : decode cX5_mix 4 = .ok (.lmul, 1) := by decide +kernel
theorem dX5_mix_5 : decode cX5_mix 5 = .ok (.lload_n 2, 1) := by decide +kernel
theorem dX5_mix_6 : decode cX5_mix 6 = .ok (.ladd, 1) := by decide +kernel
theorem dX5_mix_7 : decode cX5_mix 7 = .ok (.lreturn, 1) := by decide +kernel
theorem dX5_mixWhatIs_0 : decode cX5_mixWhatIs 0 = .ok (.lload_n 1, 1) := by decide +kernel
theorem dX5_mixWhatIs_1 : decode cX5_mixWhatIs 1 = .ok (.lstore 4, 2) := by decide +kernel
theorem dX5_mixWhatIs_3 : decode cX5_mixWhatIs 3 = .ok (.iconst 0, 1) := by decide +kernel
theorem dX5_mixWhatIs_4 : decode cX5_mixWhatIs 4 = .ok (.istore 6, 2) := by decide +kernel
theorem dX5_mixWhatIs_6 : decode cX5_mixWhatIs 6 = .ok (.iload 6, 2) := by decide +kernel
theorem dX5_mixWhatIs_8 : decode cX5_mixWhatIs 8 = .ok (.bipush 14, 2) := by decide +kernel
theorem dX5_mixWhatIs_10 : decode cX5_mixWhatIs 10 = .ok (.if_icmp .gt 27, 3) := by decide +kernel
theorem dX5_mixWhatIs_13 : decode cX5_mixWhatIs 13 = .ok (.lload 4, 2) := by decide +kernel
theorem dX5_mixWhatIs_15 : decode cX5_mixWhatIs 15 = .ok (.aload_n 0, 1) := by decide +kernel
theorem dX5_mixWhatIs_16 : decode cX5_mixWhatIs 16 = .ok (.getfield 12, 3) := by decide +kernel
theorem dX5_mixWhatIs_19 : decode cX5_mixWhatIs 19 = .ok (.iload_n 3, 1) := by decide +kernel
theorem dX5_mixWhatIs_20 : decode cX5_mixWhatIs 20 = .ok (.iload 6, 2) := by decide +kernel
theorem dX5_mixWhatIs_22 : decode cX5_mixWhatIs 22 = .ok (.invokevirtual 71, 3) := by decide +kernel
theorem dX5_mixWhatIs_25 : decode cX5_mixWhatIs 25 = .ok (.i2l, 1) := by decide +kernel
theorem dX5_mixWhatIs_26 : decode cX5_mixWhatIs 26 = .ok (.invokestatic 228, 3) := by decide +kernel
theorem dX5_mixWhatIs_29 : decode cX5_mixWhatIs 29 = .ok (.lstore 4, 2) := by decide +kernel
theorem dX5_mixWhatIs_31 : decode cX5_mixWhatIs 31 = .ok (.iinc 6 1, 3) := by decide +kernel
theorem dX5_mixWhatIs_34 : decode cX5_mixWhatIs 34 = .ok (.goto (-28), 3) := by decide +kernel
theorem dX5_mixWhatIs_37 : decode cX5_mixWhatIs 37 = .ok (.iconst 0, 1) := by decide +kernel
theorem dX5_mixWhatIs_38 : decode cX5_mixWhatIs 38 = .ok (.istore 6, 2) := by decide +kernel
theorem dX5_mixWhatIs_40 : decode cX5_mixWhatIs 40 = .ok (.iload 6, 2) := by decide +kernel
theorem dX5_mixWhatIs_42 : decode cX5_mixWhatIs 42 = .ok (.aload_n 0, 1) := by decide +kernel
theorem dX5_mixWhatIs_43 : decode cX5_mixWhatIs 43 = .ok (.getfield 12, 3) := by decide +kernel
theorem dX5_mixWhatIs_46 : decode cX5_mixWhatIs 46 = .ok (.iload_n 3, 1) := by decide +kernel
theorem dX5_mixWhatIs_47 : decode cX5_mixWhatIs 47 = .ok (.bipush 7, 2) := by decide +kernel
theorem dX5_mixWhatIs_49 : decode cX5_mixWhatIs 49 = .ok (.invokevirtual 71, 3) := by decide +kernel
theorem dX5_mixWhatIs_52 : decode cX5_mixWhatIs 52 = .ok (.if_icmp .ge 44, 3) := by decide +kernel
theorem dX5_mixWhatIs_55 : decode cX5_mixWhatIs 55 = .ok (.iconst 0, 1) := by decide +kernel
theorem dX5_mixWhatIs_56 : decode cX5_mixWhatIs 56 = .ok (.istore 7, 2) := by decide +kernel
theorem dX5_mixWhatIs_58 : decode cX5_mixWhatIs 58 = .ok (.iload 7, 2) := by decide +kernel
theorem dX5_mixWhatIs_60 : decode cX5_mixWhatIs 60 = .ok (.iconst 5, 1) := by decide +kernel
theorem dX5_mixWhatIs_61 : decode cX5_mixWhatIs 61 = .ok (.if_icmp .gt 29, 3) := by decide +kernel
theorem dX5_mixWhatIs_64 : decode cX5_mixWhatIs 64 = .ok (.lload 4, 2) := by decide +kernel
theorem dX5_mixWhatIs_66 : decode cX5_mixWhatIs 66 = .ok (.aload_n 0, 1) := by decide +kernel
theorem dX5_mixWhatIs_67 : decode cX5_mixWhatIs 67 = .ok (.getfield 12, 3) := by decide +kernel
theorem dX5_mixWhatIs_70 : decode cX5_mixWhatIs 70 = .ok (.iload_n 3, 1) := by decide +kernel
theorem dX5_mixWhatIs_71 : decode cX5_mixWhatIs 71 = .ok (.iload 6, 2) := by decide +kernel
theorem dX5_mixWhatIs_73 : decode cX5_mixWhatIs 73 = .ok (.iload 7, 2) := by decide +kernel
theorem dX5_mixWhatIs_75 : decode cX5_mixWhatIs 75 = .ok (.invokevirtual 175, 3) := by decide +kernel
theorem dX5_mixWhatIs_78 : decode cX5_mixWhatIs 78 = .ok (.i2l, 1) := by decide +kernel
theorem dX5_mixWhatIs_79 : decode cX5_mixWhatIs 79 = .ok (.invokestatic 228, 3) := by decide +kernel
theorem dX5_mixWhatIs_82 : decode cX5_mixWhatIs 82 = .ok (.lstore 4, 2) := by decide +kernel
theorem dX5_mixWhatIs_84 : decode cX5_mixWhatIs 84 = .ok (.iinc 7 1, 3) := by decide +kernel
theorem dX5_mixWhatIs_87 : decode cX5_mixWhatIs 87 = .ok (.goto (-29), 3) := by decide +kernel
theorem dX5_mixWhatIs_90 : decode cX5_mixWhatIs 90 = .ok (.iinc 6 1, 3) := by decide +kernel
theorem dX5_mixWhatIs_93 : decode cX5_mixWhatIs 93 = .ok (.goto (-53), 3) := by decide +kernel
theorem dX5_mixWhatIs_96 : decode cX5_mixWhatIs 96 = .ok (.iconst 0, 1) := by decide +kernel
theorem dX5_mixWhatIs_97 : decode cX5_mixWhatIs 97 = .ok (.istore 6, 2) := by decide +kernel
theorem dX5_mixWhatIs_99 : decode cX5_mixWhatIs 99 = .ok (.iload 6, 2) := by decide +kernel
theorem dX5_mixWhatIs_101 : decode cX5_mixWhatIs 101 = .ok (.iconst 3, 1) := by decide +kernel
theorem dX5_mixWhatIs_102 : decode cX5_mixWhatIs 102 = .ok (.if_icmp .ge 27, 3) := by decide +kernel
theorem dX5_mixWhatIs_105 : decode cX5_mixWhatIs 105 = .ok (.lload 4, 2) := by decide +kernel
theorem dX5_mixWhatIs_107 : decode cX5_mixWhatIs 107 = .ok (.aload_n 0, 1) := by decide +kernel
theorem dX5_mixWhatIs_108 : decode cX5_mixWhatIs 108 = .ok (.getfield 12, 3) := by decide +kernel
theorem dX5_mixWhatIs_111 : decode cX5_mixWhatIs 111 = .ok (.iload_n 3, 1) := by decide +kernel
theorem dX5_mixWhatIs_112 : decode cX5_mixWhatIs 112 = .ok (.iload 6, 2) := by decide +kernel
theorem dX5_mixWhatIs_114 : decode cX5_mixWhatIs 114 = .ok (.invokevirtual 191, 3) := by decide +kernel
theorem dX5_mixWhatIs_117 : decode cX5_mixWhatIs 117 = .ok (.i2l, 1) := by decide +kernel
theorem dX5_mixWhatIs_118 : decode cX5_mixWhatIs 118 = .ok (.invokestatic 228, 3) := by decide +kernel
theorem dX5_mixWhatIs_121 : decode cX5_mixWhatIs 121 = .ok (.lstore 4, 2) := by decide +kernel
theorem dX5_mixWhatIs_123 : decode cX5_mixWhatIs 123 = .ok (.iinc 6 1, 3) := by decide +kernel
theorem dX5_mixWhatIs_126 : decode cX5_mixWhatIs 126 = .ok (.goto (-27), 3) := by decide +kernel
theorem dX5_mixWhatIs_129 : decode cX5_mixWhatIs 129 = .ok (.lload 4, 2) := by decide +kernel
theorem dX5_mixWhatIs_131 : decode cX5_mixWhatIs 131 = .ok (.lreturn, 1) := by decide +kernel
theorem dX5_mixWhatWouldBe_0 : decode cX5_mixWhatWouldBe 0 = .ok (.lload_n 1, 1) := by decide +kernel
theorem dX5_mixWhatWouldBe_1 : decode cX5_mixWhatWouldBe 1 = .ok (.aload_n 0, 1) := by decide +kernel
theorem dX5_mixWhatWouldBe_2 : decode cX5_mixWhatWouldBe 2 = .ok (.getfield 12, 3) := by decide +kernel
theorem dX5_mixWhatWouldBe_5 : decode cX5_mixWhatWouldBe 5 = .ok (.iload_n 3, 1) := by decide +kernel
theorem dX5_mixWhatWouldBe_6 : decode cX5_mixWhatWouldBe 6 = .ok (.invokevirtual 211, 3) := by decide +kernel
theorem dX5_mixWhatWouldBe_9 : decode cX5_mixWhatWouldBe 9 = .ok (.i2l, 1) := by decide +kernel
theorem dX5_mixWhatWouldBe_10 : decode cX5_mixWhatWouldBe 10 = .ok (.invokestatic 228, 3) := by decide +kernel
theorem dX5_mixWhatWouldBe_13 : decode cX5_mixWhatWouldBe 13 = .ok (.lstore 4, 2) := by decide +kernel
theorem dX5_mixWhatWouldBe_15 : decode cX5_mixWhatWouldBe 15 = .ok (.aload_n 0, 1) := by decide +kernel
theorem dX5_mixWhatWouldBe_16 : decode cX5_mixWhatWouldBe 16 = .ok (.iload_n 3, 1) := by decide +kernel
theorem dX5_mixWhatWouldBe_17 : decode cX5_mixWhatWouldBe 17 = .ok (.bipush 60, 2) := by decide +kernel
theorem dX5_mixWhatWouldBe_19 : decode cX5_mixWhatWouldBe 19 = .ok (.invokevirtual 204, 3) := by decide +kernel
theorem dX5_mixWhatWouldBe_22 : decode cX5_mixWhatWouldBe 22 = .ok (.istore 6, 2) := by decide +kernel
theorem dX5_mixWhatWouldBe_24 : decode cX5_mixWhatWouldBe 24 = .ok (.iconst 0, 1) := by decide +kernel
theorem dX5_mixWhatWouldBe_25 : decode cX5_mixWhatWouldBe 25 = .ok (.istore 7, 2) := by decide +kernel
theorem dX5_mixWhatWouldBe_27 : decode cX5_mixWhatWouldBe 27 = .ok (.iload 7, 2) := by decide +kernel
theorem dX5_mixWhatWouldBe_29 : decode cX5_mixWhatWouldBe 29 = .ok (.iconst 4, 1) := by decide +kernel
theorem dX5_mixWhatWouldBe_30 : decode cX5_mixWhatWouldBe 30 = .ok (.if_icmp .gt 35, 3) := by decide +kernel
theorem dX5_mixWhatWouldBe_33 : decode cX5_mixWhatWouldBe 33 = .ok (.lload 4, 2) := by decide +kernel
theorem dX5_mixWhatWouldBe_35 : decode cX5_mixWhatWouldBe 35 = .ok (.iload 6, 2) := by decide +kernel
theorem dX5_mixWhatWouldBe_37 : decode cX5_mixWhatWouldBe 37 = .ok (.ifCond .eq 14, 3) := by decide +kernel
theorem dX5_mixWhatWouldBe_40 : decode cX5_mixWhatWouldBe 40 = .ok (.aload_n 0, 1) := by decide +kernel
theorem dX5_mixWhatWouldBe_41 : decode cX5_mixWhatWouldBe 41 = .ok (.iload_n 3, 1) := by decide +kernel
theorem dX5_mixWhatWouldBe_42 : decode cX5_mixWhatWouldBe 42 = .ok (.iload 7, 2) := by decide +kernel
theorem dX5_mixWhatWouldBe_44 : decode cX5_mixWhatWouldBe 44 = .ok (.invokevirtual 208, 3) := by decide +kernel
theorem dX5_mixWhatWouldBe_47 : decode cX5_mixWhatWouldBe 47 = .ok (.i2l, 1) := by decide +kernel
theorem dX5_mixWhatWouldBe_48 : decode cX5_mixWhatWouldBe 48 = .ok (.goto 6, 3) := by decide +kernel
theorem dX5_mixWhatWouldBe_51 : decode cX5_mixWhatWouldBe 51 = .ok (.ldc2_w 271, 3) := by decide +kernel
theorem dX5_mixWhatWouldBe_54 : decode cX5_mixWhatWouldBe 54 = .ok (.invokestatic 228, 3) := by decide +kernel
theorem dX5_mixWhatWouldBe_57 : decode cX5_mixWhatWouldBe 57 = .ok (.lstore 4, 2) := by decide +kernel
theorem dX5_mixWhatWouldBe_59 : decode cX5_mixWhatWouldBe 59 = .ok (.iinc 7 1, 3) := by decide +kernel
theorem dX5_mixWhatWouldBe_62 : decode cX5_mixWhatWouldBe 62 = .ok (.goto (-35), 3) := by decide +kernel
theorem dX5_mixWhatWouldBe_65 : decode cX5_mixWhatWouldBe 65 = .ok (.lload 4, 2) := by decide +kernel
theorem dX5_mixWhatWouldBe_67 : decode cX5_mixWhatWouldBe 67 = .ok (.aload_n 0, 1) := by decide +kernel
theorem dX5_mixWhatWouldBe_68 : decode cX5_mixWhatWouldBe 68 = .ok (.iload_n 3, 1) := by decide +kernel
theorem dX5_mixWhatWouldBe_69 : decode cX5_mixWhatWouldBe 69 = .ok (.bipush 60, 2) := by decide +kernel
theorem dX5_mixWhatWouldBe_71 : decode cX5_mixWhatWouldBe 71 = .ok (.invokevirtual 217, 3) := by decide +kernel
theorem dX5_mixWhatWouldBe_74 : decode cX5_mixWhatWouldBe 74 = .ok (.i2l, 1) := by decide +kernel
theorem dX5_mixWhatWouldBe_75 : decode cX5_mixWhatWouldBe 75 = .ok (.invokestatic 228, 3) := by decide +kernel
theorem dX5_mixWhatWouldBe_78 : decode cX5_mixWhatWouldBe 78 = .ok (.lstore 4, 2) := by decide +kernel
theorem dX5_mixWhatWouldBe_80 : decode cX5_mixWhatWouldBe 80 = .ok (.iconst 0, 1) := by decide +kernel
theorem dX5_mixWhatWouldBe_81 : decode cX5_mixWhatWouldBe 81 = .ok (.istore 7, 2) := by decide +kernel
theorem dX5_mixWhatWouldBe_83 : decode cX5_mixWhatWouldBe 83 = .ok (.iload 7, 2) := by decide +kernel
theorem dX5_mixWhatWouldBe_85 : decode cX5_mixWhatWouldBe 85 = .ok (.aload_n 0, 1) := by decide +kernel
theorem dX5_mixWhatWouldBe_86 : decode cX5_mixWhatWouldBe 86 = .ok (.getfield 12, 3) := by decide +kernel
theorem dX5_mixWhatWouldBe_89 : decode cX5_mixWhatWouldBe 89 = .ok (.invokevirtual 44, 3) := by decide +kernel
theorem dX5_mixWhatWouldBe_92 : decode cX5_mixWhatWouldBe 92 = .ok (.if_icmp .ge 27, 3) := by decide +kernel
theorem dX5_mixWhatWouldBe_95 : decode cX5_mixWhatWouldBe 95 = .ok (.lload 4, 2) := by decide +kernel
theorem dX5_mixWhatWouldBe_97 : decode cX5_mixWhatWouldBe 97 = .ok (.aload_n 0, 1) := by decide +kernel
theorem dX5_mixWhatWouldBe_98 : decode cX5_mixWhatWouldBe 98 = .ok (.getfield 12, 3) := by decide +kernel
theorem dX5_mixWhatWouldBe_101 : decode cX5_mixWhatWouldBe 101 = .ok (.iload_n 3, 1) := by decide +kernel
theorem dX5_mixWhatWouldBe_102 : decode cX5_mixWhatWouldBe 102 = .ok (.iload 7, 2) := by decide +kernel
theorem dX5_mixWhatWouldBe_104 : decode cX5_mixWhatWouldBe 104 = .ok (.invokevirtual 115, 3) := by decide +kernel
theorem dX5_mixWhatWouldBe_107 : decode cX5_mixWhatWouldBe 107 = .ok (.i2l, 1) := by decide +kernel
theorem dX5_mixWhatWouldBe_108 : decode cX5_mixWhatWouldBe 108 = .ok (.invokestatic 228, 3) := by decide +kernel
theorem dX5_mixWhatWouldBe_111 : decode cX5_mixWhatWouldBe 111 = .ok (.lstore 4, 2) := by decide +kernel
theorem dX5_mixWhatWouldBe_113 : decode cX5_mixWhatWouldBe 113 = .ok (.iinc 7 1, 3) := by decide +kernel
theorem dX5_mixWhatWouldBe_116 : decode cX5_mixWhatWouldBe 116 = .ok (.goto (-33), 3) := by decide +kernel
theorem dX5_mixWhatWouldBe_119 : decode cX5_mixWhatWouldBe 119 = .ok (.lload 4, 2) := by decide +kernel
theorem dX5_mixWhatWouldBe_121 : decode cX5_mixWhatWouldBe 121 = .ok (.lreturn, 1) := by decide +kernel
theorem dX5_bitsOfShare_0 : decode cX5_bitsOfShare 0 = .ok (.dload_n 0, 1) := by decide +kernel
theorem dX5_bitsOfShare_1 : decode cX5_bitsOfShare 1 = .ok (.dconst 0, 1) := by decide +kernel
theorem dX5_bitsOfShare_2 : decode cX5_bitsOfShare 2 = .ok (.dcmp .g, 1) := by decide +kernel
theorem dX5_bitsOfShare_3 : decode cX5_bitsOfShare 3 = .ok (.ifCond .gt 5, 3) := by decide +kernel
theorem dX5_bitsOfShare_6 : decode cX5_bitsOfShare 6 = .ok (.lconst 0, 1) := by decide +kernel
theorem dX5_bitsOfShare_7 : decode cX5_bitsOfShare 7 = .ok (.lreturn, 1) := by decide +kernel
theorem dX5_bitsOfShare_8 : decode cX5_bitsOfShare 8 = .ok (.dload_n 0, 1) := by decide +kernel
theorem dX5_bitsOfShare_9 : decode cX5_bitsOfShare 9 = .ok (.dstore_n 2, 1) := by decide +kernel
theorem dX5_bitsOfShare_10 : decode cX5_bitsOfShare 10 = .ok (.ldc2_w 273, 3) := by decide +kernel
theorem dX5_bitsOfShare_13 : decode cX5_bitsOfShare 13 = .ok (.lstore 4, 2) := by decide +kernel
theorem dX5_bitsOfShare_15 : decode cX5_bitsOfShare 15 = .ok (.iconst 0, 1) := by decide +kernel
theorem dX5_bitsOfShare_16 : decode cX5_bitsOfShare 16 = .ok (.istore 6, 2) := by decide +kernel
theorem dX5_bitsOfShare_18 : decode cX5_bitsOfShare 18 = .ok (.iload 6, 2) := by decide +kernel
theorem dX5_bitsOfShare_20 : decode cX5_bitsOfShare 20 = .ok (.sipush 1022, 3) := by decide +kernel
theorem dX5_bitsOfShare_23 : decode cX5_bitsOfShare 23 = .ok (.if_icmp .ge 27, 3) := by decide +kernel
theorem dX5_bitsOfShare_26 : decode cX5_bitsOfShare 26 = .ok (.dload_n 2, 1) := by decide +kernel
theorem dX5_bitsOfShare_27 : decode cX5_bitsOfShare 27 = .ok (.dconst 1, 1) := by decide +kernel
theorem dX5_bitsOfShare_28 : decode cX5_bitsOfShare 28 = .ok (.dcmp .g, 1) := by decide +kernel
theorem dX5_bitsOfShare_29 : decode cX5_bitsOfShare 29 = .ok (.ifCond .ge 21, 3) := by decide +kernel
theorem dX5_bitsOfShare_32 : decode cX5_bitsOfShare 32 = .ok (.dload_n 2, 1) := by decide +kernel
theorem dX5_bitsOfShare_33 : decode cX5_bitsOfShare 33 = .ok (.ldc2_w 275, 3) := by decide +kernel
theorem dX5_bitsOfShare_36 : decode cX5_bitsOfShare 36 = .ok (.dmul, 1) := by decide +kernel
theorem dX5_bitsOfShare_37 : decode cX5_bitsOfShare 37 = .ok (.dstore_n 2, 1) := by decide +kernel
theorem dX5_bitsOfShare_38 : decode cX5_bitsOfShare 38 = .ok (.lload 4, 2) := by decide +kernel
theorem dX5_bitsOfShare_40 : decode cX5_bitsOfShare 40 = .ok (.lconst 1, 1) := by decide +kernel
theorem dX5_bitsOfShare_41 : decode cX5_bitsOfShare 41 = .ok (.lsub, 1) := by decide +kernel
theorem dX5_bitsOfShare_42 : decode cX5_bitsOfShare 42 = .ok (.lstore 4, 2) := by decide +kernel
theorem dX5_bitsOfShare_44 : decode cX5_bitsOfShare 44 = .ok (.iinc 6 1, 3) := by decide +kernel
theorem dX5_bitsOfShare_47 : decode cX5_bitsOfShare 47 = .ok (.goto (-29), 3) := by decide +kernel
theorem dX5_bitsOfShare_50 : decode cX5_bitsOfShare 50 = .ok (.dload_n 2, 1) := by decide +kernel
theorem dX5_bitsOfShare_51 : decode cX5_bitsOfShare 51 = .ok (.dconst 1, 1) := by decide +kernel
theorem dX5_bitsOfShare_52 : decode cX5_bitsOfShare 52 = .ok (.dsub, 1) := by decide +kernel
theorem dX5_bitsOfShare_53 : decode cX5_bitsOfShare 53 = .ok (.ldc2_w 277, 3) := by decide +kernel
theorem dX5_bitsOfShare_56 : decode cX5_bitsOfShare 56 = .ok (.dmul, 1) := by decide +kernel
theorem dX5_bitsOfShare_57 : decode cX5_bitsOfShare 57 = .ok (.d2l, 1) := by decide +kernel
theorem dX5_bitsOfShare_58 : decode cX5_bitsOfShare 58 = .ok (.lstore 6, 2) := by decide +kernel
theorem dX5_bitsOfShare_60 : decode cX5_bitsOfShare 60 = .ok (.lload 4, 2) := by decide +kernel
theorem dX5_bitsOfShare_62 : decode cX5_bitsOfShare 62 = .ok (.bipush 52, 2) := by decide +kernel
theorem dX5_bitsOfShare_64 : decode cX5_bitsOfShare 64 = .ok (.lshl, 1) := by decide +kernel
theorem dX5_bitsOfShare_65 : decode cX5_bitsOfShare 65 = .ok (.lload 6, 2) := by decide +kernel
theorem dX5_bitsOfShare_67 : decode cX5_bitsOfShare 67 = .ok (.lor, 1) := by decide +kernel
theorem dX5_bitsOfShare_68 : decode cX5_bitsOfShare 68 = .ok (.lreturn, 1) := by decide +kernel
theorem dX6_init_0 : decode cX6_init 0 = .ok (.aload_n 0, 1) := by decide +kernel
theorem dX6_init_1 : decode cX6_init 1 = .ok (.invokespecial 1, 3) := by decide +kernel
theorem dX6_init_4 : decode cX6_init 4 = .ok (.aload_n 0, 1) := by decide +kernel
theorem dX6_init_5 : decode cX6_init 5 = .ok (.sipush 444, 3) := by decide +kernel
theorem dX6_init_8 : decode cX6_init 8 = .ok (.newarray .int, 2) := by decide +kernel
theorem dX6_init_10 : decode cX6_init 10 = .ok (.putfield 7, 3) := by decide +kernel
theorem dX6_init_13 : decode cX6_init 13 = .ok (.aload_n 0, 1) := by decide +kernel
theorem dX6_init_14 : decode cX6_init 14 = .ok (.sipush 2664, 3) := by decide +kernel
theorem dX6_init_17 : decode cX6_init 17 = .ok (.newarray .int, 2) := by decide +kernel
theorem dX6_init_19 : decode cX6_init 19 = .ok (.putfield 13, 3) := by decide +kernel
theorem dX6_init_22 : decode cX6_init 22 = .ok (.aload_n 0, 1) := by decide +kernel
theorem dX6_init_23 : decode cX6_init 23 = .ok (.sipush 444, 3) := by decide +kernel
theorem dX6_init_26 : decode cX6_init 26 = .ok (.newarray .int, 2) := by decide +kernel
theorem dX6_init_28 : decode cX6_init 28 = .ok (.putfield 16, 3) := by decide +kernel
theorem dX6_init_31 : decode cX6_init 31 = .ok (.aload_n 0, 1) := by decide +kernel
theorem dX6_init_32 : decode cX6_init 32 = .ok (.bipush 60, 2) := by decide +kernel
theorem dX6_init_34 : decode cX6_init 34 = .ok (.newarray .int, 2) := by decide +kernel
theorem dX6_init_36 : decode cX6_init 36 = .ok (.putfield 19, 3) := by decide +kernel
theorem dX6_init_39 : decode cX6_init 39 = .ok (.aload_n 0, 1) := by decide +kernel
theorem dX6_init_40 : decode cX6_init 40 = .ok (.bipush 6, 2) := by decide +kernel
theorem dX6_init_42 : decode cX6_init 42 = .ok (.newarray .int, 2) := by decide +kernel
theorem dX6_init_44 : decode cX6_init 44 = .ok (.putfield 22, 3) := by decide +kernel
theorem dX6_init_47 : decode cX6_init 47 = .ok (.aload_n 0, 1) := by decide +kernel
theorem dX6_init_48 : decode cX6_init 48 = .ok (.bipush 110, 2) := by decide +kernel
theorem dX6_init_50 : decode cX6_init 50 = .ok (.newarray .int, 2) := by decide +kernel
theorem dX6_init_52 : decode cX6_init 52 = .ok (.putfield 25, 3) := by decide +kernel
theorem dX6_init_55 : decode cX6_init 55 = .ok (.aload_n 0, 1) := by decide +kernel
theorem dX6_init_56 : decode cX6_init 56 = .ok (.getfield 7, 3) := by decide +kernel
theorem dX6_init_59 : decode cX6_init 59 = .ok (.iconst 4, 1) := by decide +kernel
theorem dX6_init_60 : decode cX6_init 60 = .ok (.bipush 30, 2) := by decide +kernel
theorem dX6_init_62 : decode cX6_init 62 = .ok (.iastore, 1) := by decide +kernel
theorem dX6_init_63 : decode cX6_init 63 = .ok (.aload_n 0, 1) := by decide +kernel
theorem dX6_init_64 : decode cX6_init 64 = .ok (.getfield 7, 3) := by decide +kernel
theorem dX6_init_67 : decode cX6_init 67 = .ok (.iconst 5, 1) := by decide +kernel
theorem dX6_init_68 : decode cX6_init 68 = .ok (.bipush 50, 2) := by decide +kernel
theorem dX6_init_70 : decode cX6_init 70 = .ok (.iastore, 1) := by decide +kernel
theorem dX6_init_71 : decode cX6_init 71 = .ok (.return_, 1) := by decide +kernel
theorem dX6_thrown_0 : decode cX6_thrown 0 = .ok (.aload_n 0, 1) := by decide +kernel
theorem dX6_thrown_1 : decode cX6_thrown 1 = .ok (.getfield 28, 3) := by decide +kernel
theorem dX6_thrown_4 : decode cX6_thrown 4 = .ok (.ireturn, 1) := by decide +kernel
theorem dX6_fails_0 : decode cX6_fails 0 = .ok (.aload_n 0, 1) := by decide +kernel
theorem dX6_fails_1 : decode cX6_fails 1 = .ok (.iload_n 1, 1) := by decide +kernel
theorem dX6_fails_2 : decode cX6_fails 2 = .ok (.putfield 28, 3) := by decide +kernel
theorem dX6_fails_5 : decode cX6_fails 5 = .ok (.iconst 0, 1) := by decide +kernel
theorem dX6_fails_6 : decode cX6_fails 6 = .ok (.ireturn, 1) := by decide +kernel
theorem dX6_in_0 : decode cX6_in 0 = .ok (.iload_n 0, 1) := by decide +kernel
theorem dX6_in_1 : decode cX6_in 1 = .ok (.iload_n 1, 1) := by decide +kernel
theorem dX6_in_2 : decode cX6_in 2 = .ok (.if_icmp .lt 12, 3) := by decide +kernel
theorem dX6_in_5 : decode cX6_in 5 = .ok (.iload_n 0, 1) := by decide +kernel
theorem dX6_in_6 : decode cX6_in 6 = .ok (.iload_n 2, 1) := by decide +kernel
theorem dX6_in_7 : decode cX6_in 7 = .ok (.if_icmp .gt 7, 3) := by decide +kernel
theorem dX6_in_10 : decode cX6_in 10 = .ok (.iconst 1, 1) := by decide +kernel
theorem dX6_in_11 : decode cX6_in 11 = .ok (.goto 4, 3) := by decide +kernel
theorem dX6_in_14 : decode cX6_in 14 = .ok (.iconst 0, 1) := by decide +kernel
theorem dX6_in_15 : decode cX6_in 15 = .ok (.ireturn, 1) := by decide +kernel
theorem dX6_least_0 : decode cX6_least 0 = .ok (.iload_n 0, 1) := by decide +kernel
theorem dX6_least_1 : decode cX6_least 1 = .ok (.iload_n 1, 1) := by decide +kernel
theorem dX6_least_2 : decode cX6_least 2 = .ok (.if_icmp .ge 7, 3) := by decide +kernel
theorem dX6_least_5 : decode cX6_least 5 = .ok (.iload_n 0, 1) := by decide +kernel
theorem dX6_least_6 : decode cX6_least 6 = .ok (.goto 4, 3) := by decide +kernel
theorem dX6_least_9 : decode cX6_least 9 = .ok (.iload_n 1, 1) := by decide +kernel
theorem dX6_least_10 : decode cX6_least 10 = .ok (.ireturn, 1) := by decide +kernel
theorem dX6_save_0 : decode cX6_save 0 = .ok (.aload_n 0, 1) := by decide +kernel
theorem dX6_save_1 : decode cX6_save 1 = .ok (.getfield 32, 3) := by decide +kernel
theorem dX6_save_4 : decode cX6_save 4 = .ok (.bipush 6, 2) := by decide +kernel
theorem dX6_save_6 : decode cX6_save 6 = .ok (.if_icmp .ne 44, 3) := by decide +kernel
theorem dX6_save_9 : decode cX6_save 9 = .ok (.iconst 0, 1) := by decide +kernel
theorem dX6_save_10 : decode cX6_save 10 = .ok (.istore_n 1, 1) := by decide +kernel
theorem dX6_save_11 : decode cX6_save 11 = .ok (.iload_n 1, 1) := by decide +kernel
theorem dX6_save_12 : decode cX6_save 12 = .ok (.sipush 2220, 3) := by decide +kernel
theorem dX6_save_15 : decode cX6_save 15 = .ok (.if_icmp .ge 25, 3) := by decide +kernel
theorem dX6_save_18 : decode cX6_save 18 = .ok (.aload_n 0, 1) := by decide +kernel
theorem dX6_save_19 : decode cX6_save 19 = .ok (.getfield 13, 3) := by decide +kernel
theorem dX6_save_22 : decode cX6_save 22 = .ok (.iload_n 1, 1) := by decide +kernel
theorem dX6_save_23 : decode cX6_save 23 = .ok (.aload_n 0, 1) := by decide +kernel
theorem dX6_save_24 : decode cX6_save 24 = .ok (.getfield 13, 3) := by decide +kernel
theorem dX6_save_27 : decode cX6_save 27 = .ok (.iload_n 1, 1) := by decide +kernel
theorem dX6_save_28 : decode cX6_save 28 = .ok (.sipush 444, 3) := by decide +kernel
theorem dX6_save_31 : decode cX6_save 31 = .ok (.iadd, 1) := by decide +kernel
theorem dX6_save_32 : decode cX6_save 32 = .ok (.iaload, 1) := by decide +kernel
theorem dX6_save_33 : decode cX6_save 33 = .ok (.iastore, 1) := by decide +kernel
theorem dX6_save_34 : decode cX6_save 34 = .ok (.iinc 1 1, 3) := by decide +kernel
theorem dX6_save_37 : decode cX6_save 37 = .ok (.goto (-26), 3) := by decide +kernel
theorem dX6_save_40 : decode cX6_save 40 = .ok (.aload_n 0, 1) := by decide +kernel
theorem dX6_save_41 : decode cX6_save 41 = .ok (.dup, 1) := by decide +kernel
theorem dX6_save_42 : decode cX6_save 42 = .ok (.getfield 32, 3) := by decide +kernel
theorem dX6_save_45 : decode cX6_save 45 = .ok (.iconst 1, 1) := by decide +kernel
theorem dX6_save_46 : decode cX6_save 46 = .ok (.isub, 1) := by decide +kernel
theorem dX6_save_47 : decode cX6_save 47 = .ok (.putfield 32, 3) := by decide +kernel
theorem dX6_save_50 : decode cX6_save 50 = .ok (.iconst 0, 1) := by decide +kernel
theorem dX6_save_51 : decode cX6_save 51 = .ok (.istore_n 1, 1) := by decide +kernel
theorem dX6_save_52 : decode cX6_save 52 = .ok (.iload_n 1, 1) := by decide +kernel
theorem dX6_save_53 : decode cX6_save 53 = .ok (.sipush 444, 3) := by decide +kernel
theorem dX6_save_56 : decode cX6_save 56 = .ok (.if_icmp .ge 30, 3) := by decide +kernel
theorem dX6_save_59 : decode cX6_save 59 = .ok (.aload_n 0, 1) := by decide +kernel
theorem dX6_save_60 : decode cX6_save 60 = .ok (.getfield 13, 3) := by decide +kernel
theorem dX6_save_63 : decode cX6_save 63 = .ok (.sipush 444, 3) := by decide +kernel
theorem dX6_save_66 : decode cX6_save 66 = .ok (.aload_n 0, 1) := by decide +kernel
theorem dX6_save_67 : decode cX6_save 67 = .ok (.getfield 32, 3) := by decide +kernel
theorem dX6_save_70 : decode cX6_save 70 = .ok (.imul, 1) := by decide +kernel
theorem dX6_save_71 : decode cX6_save 71 = .ok (.iload_n 1, 1) := by decide +kernel
theorem dX6_save_72 : decode cX6_save 72 = .ok (.iadd, 1) := by decide +kernel
theorem dX6_save_73 : decode cX6_save 73 = .ok (.aload_n 0, 1) := by decide +kernel
theorem dX6_save_74 : decode cX6_save 74 = .ok (.getfield 7, 3) := by decide +kernel
theorem dX6_save_77 : decode cX6_save 77 = .ok (.iload_n 1, 1) := by decide +kernel
theorem dX6_save_78 : decode cX6_save 78 = .ok (.iaload, 1) := by decide +kernel
theorem dX6_save_79 : decode cX6_save 79 = .ok (.iastore, 1) := by decide +kernel
theorem dX6_save_80 : decode cX6_save 80 = .ok (.iinc 1 1, 3) := by decide +kernel
theorem dX6_save_83 : decode cX6_save 83 = .ok (.goto (-31), 3) := by decide +kernel
theorem dX6_save_86 : decode cX6_save 86 = .ok (.aload_n 0, 1) := by decide +kernel
theorem dX6_save_87 : decode cX6_save 87 = .ok (.dup, 1) := by decide +kernel
theorem dX6_save_88 : decode cX6_save 88 = .ok (.getfield 32, 3) := by decide +kernel
theorem dX6_save_91 : decode cX6_save 91 = .ok (.iconst 1, 1) := by decide +kernel
theorem dX6_save_92 : decode cX6_save 92 = .ok (.iadd, 1) := by decide +kernel
theorem dX6_save_93 : decode cX6_save 93 = .ok (.putfield 32, 3) := by decide +kernel
theorem dX6_save_96 : decode cX6_save 96 = .ok (.return_, 1) := by decide +kernel
theorem dX6_putAside_0 : decode cX6_putAside 0 = .ok (.iconst 0, 1) := by decide +kernel
theorem dX6_putAside_1 : decode cX6_putAside 1 = .ok (.istore_n 1, 1) := by decide +kernel
theorem dX6_putAside_2 : decode cX6_putAside 2 = .ok (.iload_n 1, 1) := by decide +kernel
theorem dX6_putAside_3 : decode cX6_putAside 3 = .ok (.sipush 444, 3) := by decide +kernel
theorem dX6_putAside_6 : decode cX6_putAside 6 = .ok (.if_icmp .ge 21, 3) := by decide +kernel
theorem dX6_putAside_9 : decode cX6_putAside 9 = .ok (.aload_n 0, 1) := by decide +kernel
theorem dX6_putAside_10 : decode cX6_putAside 10 = .ok (.getfield 16, 3) := by decide +kernel
theorem dX6_putAside_13 : decode cX6_putAside 13 = .ok (.iload_n 1, 1) := by decide +kernel
theorem dX6_putAside_14 : decode cX6_putAside 14 = .ok (.aload_n 0, 1) := by decide +kernel
theorem dX6_putAside_15 : decode cX6_putAside 15 = .ok (.getfield 7, 3) := by decide +kernel
theorem dX6_putAside_18 : decode cX6_putAside 18 = .ok (.iload_n 1, 1) := by decide +kernel
theorem dX6_putAside_19 : decode cX6_putAside 19 = .ok (.iaload, 1) := by decide +kernel
theorem dX6_putAside_20 : decode cX6_putAside 20 = .ok (.iastore, 1) := by decide +kernel
theorem dX6_putAside_21 : decode cX6_putAside 21 = .ok (.iinc 1 1, 3) := by decide +kernel
theorem dX6_putAside_24 : decode cX6_putAside 24 = .ok (.goto (-22), 3) := by decide +kernel
theorem dX6_putAside_27 : decode cX6_putAside 27 = .ok (.return_, 1) := by decide +kernel
theorem dX6_putBack_0 : decode cX6_putBack 0 = .ok (.iconst 0, 1) := by decide +kernel
theorem dX6_putBack_1 : decode cX6_putBack 1 = .ok (.istore_n 1, 1) := by decide +kernel
theorem dX6_putBack_2 : decode cX6_putBack 2 = .ok (.iload_n 1, 1) := by decide +kernel
theorem dX6_putBack_3 : decode cX6_putBack 3 = .ok (.sipush 444, 3) := by decide +kernel
theorem dX6_putBack_6 : decode cX6_putBack 6 = .ok (.if_icmp .ge 21, 3) := by decide +kernel
theorem dX6_putBack_9 : decode cX6_putBack 9 = .ok (.aload_n 0, 1) := by decide +kernel
theorem dX6_putBack_10 : decode cX6_putBack 10 = .ok (.getfield 7, 3) := by decide +kernel
theorem dX6_putBack_13 : decode cX6_putBack 13 = .ok (.iload_n 1, 1) := by decide +kernel
theorem dX6_putBack_14 : decode cX6_putBack 14 = .ok (.aload_n 0, 1) := by decide +kernel
theorem dX6_putBack_15 : decode cX6_putBack 15 = .ok (.getfield 16, 3) := by decide +kernel
theorem dX6_putBack_18 : decode cX6_putBack 18 = .ok (.iload_n 1, 1) := by decide +kernel
theorem dX6_putBack_19 : decode cX6_putBack 19 = .ok (.iaload, 1) := by decide +kernel
theorem dX6_putBack_20 : decode cX6_putBack 20 = .ok (.iastore, 1) := by decide +kernel
theorem dX6_putBack_21 : decode cX6_putBack 21 = .ok (.iinc 1 1, 3) := by decide +kernel
theorem dX6_putBack_24 : decode cX6_putBack 24 = .ok (.goto (-22), 3) := by decide +kernel
theorem dX6_putBack_27 : decode cX6_putBack 27 = .ok (.return_, 1) := by decide +kernel
theorem dX6_at_0 : decode cX6_at 0 = .ok (.bipush 6, 2) := by decide +kernel
theorem dX6_at_2 : decode cX6_at 2 = .ok (.bipush 58, 2) := by decide +kernel
theorem dX6_at_4 : decode cX6_at 4 = .ok (.iload_n 0, 1) := by decide +kernel
theorem dX6_at_5 : decode cX6_at 5 = .ok (.imul, 1) := by decide +kernel
theorem dX6_at_6 : decode cX6_at 6 = .ok (.iadd, 1) := by decide +kernel
theorem dX6_at_7 : decode cX6_at 7 = .ok (.ireturn, 1) := by decide +kernel
theorem dX6_loanAt_0 : decode cX6_loanAt 0 = .ok (.sipush 354, 3) := by decide +kernel
theorem dX6_loanAt_3 : decode cX6_loanAt 3 = .ok (.iconst 3, 1) := by decide +kernel
theorem dX6_loanAt_4 : decode cX6_loanAt 4 = .ok (.iload_n 0, 1) := by decide +kernel
theorem dX6_loanAt_5 : decode cX6_loanAt 5 = .ok (.imul, 1) := by decide +kernel
theorem dX6_loanAt_6 : decode cX6_loanAt 6 = .ok (.iadd, 1) := by decide +kernel
theorem dX6_loanAt_7 : decode cX6_loanAt 7 = .ok (.ireturn, 1) := by decide +kernel
theorem dX6_isProject_0 : decode cX6_isProject 0 = .ok (.iload_n 1, 1) := by decide +kernel
theorem dX6_isProject_1 : decode cX6_isProject 1 = .ok (.iconst 0, 1) := by decide +kernel
theorem dX6_isProject_2 : decode cX6_isProject 2 = .ok (.aload_n 0, 1) := by decide +kernel
theorem dX6_isProject_3 : decode cX6_isProject 3 = .ok (.getfield 7, 3) := by decide +kernel
theorem dX6_isProject_6 : decode cX6_isProject 6 = .ok (.iconst 0, 1) := by decide +kernel
theorem dX6_isProject_7 : decode cX6_isProject 7 = .ok (.iaload, 1) := by decide +kernel
theorem dX6_isProject_8 : decode cX6_isProject 8 = .ok (.iconst 1, 1) := by decide +kernel
theorem dX6_isProject_9 : decode cX6_isProject 9 = .ok (.isub, 1) := by decide +kernel
theorem dX6_isProject_10 : decode cX6_isProject 10 = .ok (.invokestatic 35, 3) := by decide +kernel
theorem dX6_isProject_13 : decode cX6_isProject 13 = .ok (.ireturn, 1) := by decide +kernel
theorem dX6_isOpen_0 : decode cX6_isOpen 0 = .ok (.aload_n 0, 1) := by decide +kernel
theorem dX6_isOpen_1 : decode cX6_isOpen 1 = .ok (.getfield 7, 3) := by decide +kernel
theorem dX6_isOpen_4 : decode cX6_isOpen 4 = .ok (.iload_n 1, 1) := by decide +kernel
theorem dX6_isOpen_5 : decode cX6_isOpen 5 = .ok (.invokestatic 39, 3) := by decide +kernel
theorem dX6_isOpen_8 : decode cX6_isOpen 8 = .ok (.bipush 7, 2) := by decide +kernel
theorem dX6_isOpen_10 : decode cX6_isOpen 10 = .ok (.iadd, 1) := by decide +kernel
theorem dX6_isOpen_11 : decode cX6_isOpen 11 = .ok (.iaload, 1) := by decide +kernel
theorem dX6_isOpen_12 : decode cX6_isOpen 12 = .ok (.iconst 1, 1) := by decide +kernel
theorem dX6_isOpen_13 : decode cX6_isOpen 13 = .ok (.if_icmp .ne 7, 3) := by decide +kernel
theorem dX6_isOpen_16 : decode cX6_isOpen 16 = .ok (.iconst 1, 1) := by decide +kernel
theorem dX6_isOpen_17 : decode cX6_isOpen 17 = .ok (.goto 4, 3) := by decide +kernel
theorem dX6_isOpen_20 : decode cX6_isOpen 20 = .ok (.iconst 0, 1) := by decide +kernel
theorem dX6_isOpen_21 : decode cX6_isOpen 21 = .ok (.ireturn, 1) := by decide +kernel
theorem dX6_hasNext_0 : decode cX6_hasNext 0 = .ok (.aload_n 0, 1) := by decide +kernel
theorem dX6_hasNext_1 : decode cX6_hasNext 1 = .ok (.getfield 7, 3) := by decide +kernel
theorem dX6_hasNext_4 : decode cX6_hasNext 4 = .ok (.iload_n 1, 1) := by decide +kernel
theorem dX6_hasNext_5 : decode cX6_hasNext 5 = .ok (.invokestatic 39, 3) := by decide +kernel
theorem dX6_hasNext_8 : decode cX6_hasNext 8 = .ok (.bipush 6, 2) := by decide +kernel
theorem dX6_hasNext_10 : decode cX6_hasNext 10 = .ok (.iadd, 1) := by decide +kernel
theorem dX6_hasNext_11 : decode cX6_hasNext 11 = .ok (.iaload, 1) := by decide +kernel
theorem dX6_hasNext_12 : decode cX6_hasNext 12 = .ok (.aload_n 0, 1) := by decide +kernel
theorem dX6_hasNext_13 : decode cX6_hasNext 13 = .ok (.getfield 7, 3) := by decide +kernel
theorem dX6_hasNext_16 : decode cX6_hasNext 16 = .ok (.iload_n 1, 1) := by decide +kernel
theorem dX6_hasNext_17 : decode cX6_hasNext 17 = .ok (.invokestatic 39, 3) := by decide +kernel
theorem dX6_hasNext_20 : decode cX6_hasNext 20 = .ok (.iconst 5, 1) := by decide +kernel
theorem dX6_hasNext_21 : decode cX6_hasNext 21 = .ok (.iadd, 1) := by decide +kernel
theorem dX6_hasNext_22 : decode cX6_hasNext 22 = .ok (.iaload, 1) := by decide +kernel
theorem dX6_hasNext_23 : decode cX6_hasNext 23 = .ok (.if_icmp .ge 7, 3) := by decide +kernel
theorem dX6_hasNext_26 : decode cX6_hasNext 26 = .ok (.iconst 1, 1) := by decide +kernel
theorem dX6_hasNext_27 : decode cX6_hasNext 27 = .ok (.goto 4, 3) := by decide +kernel
theorem dX6_hasNext_30 : decode cX6_hasNext 30 = .ok (.iconst 0, 1) := by decide +kernel
theorem dX6_hasNext_31 : decode cX6_hasNext 31 = .ok (.ireturn, 1) := by decide +kernel
theorem dX6_mayDo_0 : decode cX6_mayDo 0 = .ok (.aload_n 0, 1) := by decide +kernel
theorem dX6_mayDo_1 : decode cX6_mayDo 1 = .ok (.iload_n 1, 1) := by decide +kernel
theorem dX6_mayDo_2 : decode cX6_mayDo 2 = .ok (.invokevirtual 43, 3) := by decide +kernel
theorem dX6_mayDo_5 : decode cX6_mayDo 5 = .ok (.ifCond .eq 15, 3) := by decide +kernel
theorem dX6_mayDo_8 : decode cX6_mayDo 8 = .ok (.aload_n 0, 1) := by decide +kernel
theorem dX6_mayDo_9 : decode cX6_mayDo 9 = .ok (.iload_n 1, 1) := by decide +kernel
theorem dX6_mayDo_10 : decode cX6_mayDo 10 = .ok (.invokevirtual 47, 3) := by decide +kernel
theorem dX6_mayDo_13 : decode cX6_mayDo 13 = .ok (.ifCond .eq 7, 3) := by decide +kernel
theorem dX6_mayDo_16 : decode cX6_mayDo 16 = .ok (.iconst 1, 1) := by decide +kernel
theorem dX6_mayDo_17 : decode cX6_mayDo 17 = .ok (.goto 4, 3) := by decide +kernel
theorem dX6_mayDo_20 : decode cX6_mayDo 20 = .ok (.iconst 0, 1) := by decide +kernel
theorem dX6_mayDo_21 : decode cX6_mayDo 21 = .ok (.ireturn, 1) := by decide +kernel
theorem dX6_placeOf_0 : decode cX6_placeOf 0 = .ok (.iconst 0, 1) := by decide +kernel
theorem dX6_placeOf_1 : decode cX6_placeOf 1 = .ok (.istore_n 3, 1) := by decide +kernel
theorem dX6_placeOf_2 : decode cX6_placeOf 2 = .ok (.iload_n 3, 1) := by decide +kernel
theorem dX6_placeOf_3 : decode cX6_placeOf 3 = .ok (.aload_n 0, 1) := by decide +kernel
theorem dX6_placeOf_4 : decode cX6_placeOf 4 = .ok (.getfield 7, 3) := by decide +kernel
theorem dX6_placeOf_7 : decode cX6_placeOf 7 = .ok (.iconst 1, 1) := by decide +kernel
theorem dX6_placeOf_8 : decode cX6_placeOf 8 = .ok (.iaload, 1) := by decide +kernel
theorem dX6_placeOf_9 : decode cX6_placeOf 9 = .ok (.if_icmp .ge 39, 3) := by decide +kernel
theorem dX6_placeOf_12 : decode cX6_placeOf 12 = .ok (.aload_n 0, 1) := by decide +kernel
theorem dX6_placeOf_13 : decode cX6_placeOf 13 = .ok (.getfield 7, 3) := by decide +kernel
theorem dX6_placeOf_16 : decode cX6_placeOf 16 = .ok (.iload_n 3, 1) := by decide +kernel
theorem dX6_placeOf_17 : decode cX6_placeOf 17 = .ok (.invokestatic 50, 3) := by decide +kernel
theorem dX6_placeOf_20 : decode cX6_placeOf 20 = .ok (.iaload, 1) := by decide +kernel
theorem dX6_placeOf_21 : decode cX6_placeOf 21 = .ok (.iload_n 1, 1) := by decide +kernel
theorem dX6_placeOf_22 : decode cX6_placeOf 22 = .ok (.if_icmp .ne 20, 3) := by decide +kernel
theorem dX6_placeOf_25 : decode cX6_placeOf 25 = .ok (.aload_n 0, 1) := by decide +kernel
theorem dX6_placeOf_26 : decode cX6_placeOf 26 = .ok (.getfield 7, 3) := by decide +kernel
theorem dX6_placeOf_29 : decode cX6_placeOf 29 = .ok (.iload_n 3, 1) := by decide +kernel
theorem dX6_placeOf_30 : decode cX6_placeOf 30 = .ok (.invokestatic 50, 3) := by decide +kernel
theorem dX6_placeOf_33 : decode cX6_placeOf 33 = .ok (.iconst 1, 1) := by decide +kernel
theorem dX6_placeOf_34 : decode cX6_placeOf 34 = .ok (.iadd, 1) := by decide +kernel
theorem dX6_placeOf_35 : decode cX6_placeOf 35 = .ok (.iaload, 1) := by decide +kernel
theorem dX6_placeOf_36 : decode cX6_placeOf 36 = .ok (.iload_n 2, 1) := by decide +kernel
theorem dX6_placeOf_37 : decode cX6_placeOf 37 = .ok (.if_icmp .ne 5, 3) := by decide +kernel
theorem dX6_placeOf_40 : decode cX6_placeOf 40 = .ok (.iload_n 3, 1) := by decide +kernel
theorem dX6_placeOf_41 : decode cX6_placeOf 41 = .ok (.ireturn, 1) := by decide +kernel
theorem dX6_placeOf_42 : decode cX6_placeOf 42 = .ok (.iinc 3 1, 3) := by decide +kernel
theorem dX6_placeOf_45 : decode cX6_placeOf 45 = .ok (.goto (-43), 3) := by decide +kernel
theorem dX6_placeOf_48 : decode cX6_placeOf 48 = .ok (.iconst (-1), 1) := by decide +kernel
theorem dX6_placeOf_49 : decode cX6_placeOf 49 = .ok (.ireturn, 1) := by decide +kernel
theorem dX6_owedOf_0 : decode cX6_owedOf 0 = .ok (.aload_n 0, 1) := by decide +kernel
theorem dX6_owedOf_1 : decode cX6_owedOf 1 = .ok (.iload_n 2, 1) := by decide +kernel
theorem dX6_owedOf_2 : decode cX6_owedOf 2 = .ok (.iload_n 1, 1) := by decide +kernel
theorem dX6_owedOf_3 : decode cX6_owedOf 3 = .ok (.invokevirtual 53, 3) := by decide +kernel
theorem dX6_owedOf_6 : decode cX6_owedOf 6 = .ok (.istore_n 3, 1) := by decide +kernel
theorem dX6_owedOf_7 : decode cX6_owedOf 7 = .ok (.iload_n 3, 1) := by decide +kernel
theorem dX6_owedOf_8 : decode cX6_owedOf 8 = .ok (.iconst (-1), 1) := by decide +kernel
theorem dX6_owedOf_9 : decode cX6_owedOf 9 = .ok (.if_icmp .ne 7, 3) := by decide +kernel
theorem dX6_owedOf_12 : decode cX6_owedOf 12 = .ok (.iconst 0, 1) := by decide +kernel
theorem dX6_owedOf_13 : decode cX6_owedOf 13 = .ok (.goto 14, 3) := by decide +kernel
theorem dX6_owedOf_16 : decode cX6_owedOf 16 = .ok (.aload_n 0, 1) := by decide +kernel
theorem dX6_owedOf_17 : decode cX6_owedOf 17 = .ok (.getfield 7, 3) := by decide +kernel
theorem dX6_owedOf_20 : decode cX6_owedOf 20 = .ok (.iload_n 3, 1) := by decide +kernel
theorem dX6_owedOf_21 : decode cX6_owedOf 21 = .ok (.invokestatic 50, 3) := by decide +kernel
theorem dX6_owedOf_24 : decode cX6_owedOf 24 = .ok (.iconst 2, 1) := by decide +kernel
theorem dX6_owedOf_25 : decode cX6_owedOf 25 = .ok (.iadd, 1) := by decide +kernel
theorem dX6_owedOf_26 : decode cX6_owedOf 26 = .ok (.iaload, 1) := by decide +kernel
theorem dX6_owedOf_27 : decode cX6_owedOf 27 = .ok (.ireturn, 1) := by decide +kernel
theorem dX6_dropLoan_0 : decode cX6_dropLoan 0 = .ok (.aload_n 0, 1) := by decide +kernel
theorem dX6_dropLoan_1 : decode cX6_dropLoan 1 = .ok (.getfield 7, 3) := by decide +kernel
theorem dX6_dropLoan_4 : decode cX6_dropLoan 4 = .ok (.iconst 1, 1) := by decide +kernel
theorem dX6_dropLoan_5 : decode cX6_dropLoan 5 = .ok (.dup2, 1) := by decide +kernel
theorem dX6_dropLoan_6 : decode cX6_dropLoan 6 = .ok (.iaload, 1) := by decide +kernel
theorem dX6_dropLoan_7 : decode cX6_dropLoan 7 = .ok (.iconst 1, 1) := by decide +kernel
theorem dX6_dropLoan_8 : decode cX6_dropLoan 8 = .ok (.isub, 1) := by decide +kernel
theorem dX6_dropLoan_9 : decode cX6_dropLoan 9 = .ok (.iastore, 1) := by decide +kernel
theorem dX6_dropLoan_10 : decode cX6_dropLoan 10 = .ok (.iload_n 1, 1) := by decide +kernel
theorem dX6_dropLoan_11 : decode cX6_dropLoan 11 = .ok (.invokestatic 50, 3) := by decide +kernel
theorem dX6_dropLoan_14 : decode cX6_dropLoan 14 = .ok (.istore_n 2, 1) := by decide +kernel
theorem dX6_dropLoan_15 : decode cX6_dropLoan 15 = .ok (.iload_n 2, 1) := by decide +kernel
theorem dX6_dropLoan_16 : decode cX6_dropLoan 16 = .ok (.aload_n 0, 1) := by decide +kernel
theorem dX6_dropLoan_17 : decode cX6_dropLoan 17 = .ok (.getfield 7, 3) := by decide +kernel
theorem dX6_dropLoan_20 : decode cX6_dropLoan 20 = .ok (.iconst 1, 1) := by decide +kernel
theorem dX6_dropLoan_21 : decode cX6_dropLoan 21 = .ok (.iaload, 1) := by decide +kernel
theorem dX6_dropLoan_22 : decode cX6_dropLoan 22 = .ok (.invokestatic 50, 3) := by decide +kernel
theorem dX6_dropLoan_25 : decode cX6_dropLoan 25 = .ok (.if_icmp .ge 23, 3) := by decide +kernel
theorem dX6_dropLoan_28 : decode cX6_dropLoan 28 = .ok (.aload_n 0, 1) := by decide +kernel
theorem dX6_dropLoan_29 : decode cX6_dropLoan 29 = .ok (.getfield 7, 3) := by decide +kernel
theorem dX6_dropLoan_32 : decode cX6_dropLoan 32 = .ok (.iload_n 2, 1) := by decide +kernel
theorem dX6_dropLoan_33 : decode cX6_dropLoan 33 = .ok (.aload_n 0, 1) := by decide +kernel
theorem dX6_dropLoan_34 : decode cX6_dropLoan 34 = .ok (.getfield 7, 3) := by decide +kernel
theorem dX6_dropLoan_37 : decode cX6_dropLoan 37 = .ok (.iload_n 2, 1) := by decide +kernel
theorem dX6_dropLoan_38 : decode cX6_dropLoan 38 = .ok (.iconst 3, 1) := by decide +kernel
theorem dX6_dropLoan_39 : decode cX6_dropLoan 39 = .ok (.iadd, 1) := by decide +kernel
theorem dX6_dropLoan_40 : decode cX6_dropLoan 40 = .ok (.iaload, 1) := by decide +kernel
theorem dX6_dropLoan_41 : decode cX6_dropLoan 41 = .ok (.iastore, 1) := by decide +kernel
theorem dX6_dropLoan_42 : decode cX6_dropLoan 42 = .ok (.iinc 2 1, 3) := by decide +kernel
theorem dX6_dropLoan_45 : decode cX6_dropLoan 45 = .ok (.goto (-30), 3) := by decide +kernel
theorem dX6_dropLoan_48 : decode cX6_dropLoan 48 = .ok (.return_, 1) := by decide +kernel
theorem dX6_addLoan_0 : decode cX6_addLoan 0 = .ok (.aload_n 0, 1) := by decide +kernel
theorem dX6_addLoan_1 : decode cX6_addLoan 1 = .ok (.iload_n 1, 1) := by decide +kernel
theorem dX6_addLoan_2 : decode cX6_addLoan 2 = .ok (.iload_n 2, 1) := by decide +kernel
theorem dX6_addLoan_3 : decode cX6_addLoan 3 = .ok (.invokevirtual 53, 3) := by decide +kernel
theorem dX6_addLoan_6 : decode cX6_addLoan 6 = .ok (.istore 4, 2) := by decide +kernel
theorem dX6_addLoan_8 : decode cX6_addLoan 8 = .ok (.iload 4, 2) := by decide +kernel
theorem dX6_addLoan_10 : decode cX6_addLoan 10 = .ok (.iconst (-1), 1) := by decide +kernel
theorem dX6_addLoan_11 : decode cX6_addLoan 11 = .ok (.if_icmp .ne 58, 3) := by decide +kernel
theorem dX6_addLoan_14 : decode cX6_addLoan 14 = .ok (.aload_n 0, 1) := by decide +kernel
theorem dX6_addLoan_15 : decode cX6_addLoan 15 = .ok (.getfield 7, 3) := by decide +kernel
theorem dX6_addLoan_18 : decode cX6_addLoan 18 = .ok (.iconst 1, 1) := by decide +kernel
theorem dX6_addLoan_19 : decode cX6_addLoan 19 = .ok (.iaload, 1) := by decide +kernel
theorem dX6_addLoan_20 : decode cX6_addLoan 20 = .ok (.istore 4, 2) := by decide +kernel
theorem dX6_addLoan_22 : decode cX6_addLoan 22 = .ok (.aload_n 0, 1) := by decide +kernel
theorem dX6_addLoan_23 : decode cX6_addLoan 23 = .ok (.getfield 7, 3) := by decide +kernel
theorem dX6_addLoan_26 : decode cX6_addLoan 26 = .ok (.iload 4, 2) := by decide +kernel
theorem dX6_addLoan_28 : decode cX6_addLoan 28 = .ok (.invokestatic 50, 3) := by decide +kernel
theorem dX6_addLoan_31 : decode cX6_addLoan 31 = .ok (.iload_n 1, 1) := by decide +kernel
theorem dX6_addLoan_32 : decode cX6_addLoan 32 = .ok (.iastore, 1) := by decide +kernel
theorem dX6_addLoan_33 : decode cX6_addLoan 33 = .ok (.aload_n 0, 1) := by decide +kernel
theorem dX6_addLoan_34 : decode cX6_addLoan 34 = .ok (.getfield 7, 3) := by decide +kernel
theorem dX6_addLoan_37 : decode cX6_addLoan 37 = .ok (.iload 4, 2) := by decide +kernel
theorem dX6_addLoan_39 : decode cX6_addLoan 39 = .ok (.invokestatic 50, 3) := by decide +kernel
theorem dX6_addLoan_42 : decode cX6_addLoan 42 = .ok (.iconst 1, 1) := by decide +kernel
theorem dX6_addLoan_43 : decode cX6_addLoan 43 = .ok (.iadd, 1) := by decide +kernel
theorem dX6_addLoan_44 : decode cX6_addLoan 44 = .ok (.iload_n 2, 1) := by decide +kernel
theorem dX6_addLoan_45 : decode cX6_addLoan 45 = .ok (.iastore, 1) := by decide +kernel
theorem dX6_addLoan_46 : decode cX6_addLoan 46 = .ok (.aload_n 0, 1) := by decide +kernel
theorem dX6_addLoan_47 : decode cX6_addLoan 47 = .ok (.getfield 7, 3) := by decide +kernel
theorem dX6_addLoan_50 : decode cX6_addLoan 50 = .ok (.iload 4, 2) := by decide +kernel
theorem dX6_addLoan_52 : decode cX6_addLoan 52 = .ok (.invokestatic 50, 3) := by decide +kernel
theorem dX6_addLoan_55 : decode cX6_addLoan 55 = .ok (.iconst 2, 1) := by decide +kernel
theorem dX6_addLoan_56 : decode cX6_addLoan 56 = .ok (.iadd, 1) := by decide +kernel
theorem dX6_addLoan_57 : decode cX6_addLoan 57 = .ok (.iconst 0, 1) := by decide +kernel
theorem dX6_addLoan_58 : decode cX6_addLoan 58 = .ok (.iastore, 1) := by decide +kernel
theorem dX6_addLoan_59 : decode cX6_addLoan 59 = .ok (.aload_n 0, 1) := by decide +kernel
theorem dX6_addLoan_60 : decode cX6_addLoan 60 = .ok (.getfield 7, 3) := by decide +kernel
theorem dX6_addLoan_63 : decode cX6_addLoan 63 = .ok (.iconst 1, 1) := by decide +kernel
theorem dX6_addLoan_64 : decode cX6_addLoan 64 = .ok (.dup2, 1) := by decide +kernel
theorem dX6_addLoan_65 : decode cX6_addLoan 65 = .ok (.iaload, 1) := by decide +kernel
theorem dX6_addLoan_66 : decode cX6_addLoan 66 = .ok (.iconst 1, 1) := by decide +kernel
theorem dX6_addLoan_67 : decode cX6_addLoan 67 = .ok (.iadd, 1) := by decide +kernel
theorem dX6_addLoan_68 : decode cX6_addLoan 68 = .ok (.iastore, 1) := by decide +kernel
theorem dX6_addLoan_69 : decode cX6_addLoan 69 = .ok (.aload_n 0, 1) := by decide +kernel
theorem dX6_addLoan_70 : decode cX6_addLoan 70 = .ok (.getfield 7, 3) := by decide +kernel
theorem dX6_addLoan_73 : decode cX6_addLoan 73 = .ok (.iload 4, 2) := by decide +kernel
theorem dX6_addLoan_75 : decode cX6_addLoan 75 = .ok (.invokestatic 50, 3) := by decide +kernel
theorem dX6_addLoan_78 : decode cX6_addLoan 78 = .ok (.iconst 2, 1) := by decide +kernel
theorem dX6_addLoan_79 : decode cX6_addLoan 79 = .ok (.iadd, 1) := by decide +kernel
theorem dX6_addLoan_80 : decode cX6_addLoan 80 = .ok (.dup2, 1) := by decide +kernel
theorem dX6_addLoan_81 : decode cX6_addLoan 81 = .ok (.iaload, 1) := by decide +kernel
theorem dX6_addLoan_82 : decode cX6_addLoan 82 = .ok (.iload_n 3, 1) := by decide +kernel
theorem dX6_addLoan_83 : decode cX6_addLoan 83 = .ok (.iadd, 1) := by decide +kernel
theorem dX6_addLoan_84 : decode cX6_addLoan 84 = .ok (.iastore, 1) := by decide +kernel
theorem dX6_addLoan_85 : decode cX6_addLoan 85 = .ok (.return_, 1) := by decide +kernel
theorem dX6_cutLoan_0 : decode cX6_cutLoan 0 = .ok (.aload_n 0, 1) := by decide +kernel
theorem dX6_cutLoan_1 : decode cX6_cutLoan 1 = .ok (.getfield 7, 3) := by decide +kernel
theorem dX6_cutLoan_4 : decode cX6_cutLoan 4 = .ok (.iload_n 1, 1) := by decide +kernel
theorem dX6_cutLoan_5 : decode cX6_cutLoan 5 = .ok (.invokestatic 50, 3) := by decide +kernel
theorem dX6_cutLoan_8 : decode cX6_cutLoan 8 = .ok (.iconst 2, 1) := by decide +kernel
theorem dX6_cutLoan_9 : decode cX6_cutLoan 9 = .ok (.iadd, 1) := by decide +kernel
theorem dX6_cutLoan_10 : decode cX6_cutLoan 10 = .ok (.dup2, 1) := by decide +kernel
theorem dX6_cutLoan_11 : decode cX6_cutLoan 11 = .ok (.iaload, 1) := by decide +kernel
theorem dX6_cutLoan_12 : decode cX6_cutLoan 12 = .ok (.iload_n 2, 1) := by decide +kernel
theorem dX6_cutLoan_13 : decode cX6_cutLoan 13 = .ok (.isub, 1) := by decide +kernel
theorem dX6_cutLoan_14 : decode cX6_cutLoan 14 = .ok (.iastore, 1) := by decide +kernel
theorem dX6_cutLoan_15 : decode cX6_cutLoan 15 = .ok (.aload_n 0, 1) := by decide +kernel
theorem dX6_cutLoan_16 : decode cX6_cutLoan 16 = .ok (.getfield 7, 3) := by decide +kernel
theorem dX6_cutLoan_19 : decode cX6_cutLoan 19 = .ok (.iload_n 1, 1) := by decide +kernel
theorem dX6_cutLoan_20 : decode cX6_cutLoan 20 = .ok (.invokestatic 50, 3) := by decide +kernel
theorem dX6_cutLoan_23 : decode cX6_cutLoan 23 = .ok (.iconst 2, 1) := by decide +kernel
theorem dX6_cutLoan_24 : decode cX6_cutLoan 24 = .ok (.iadd, 1) := by decide +kernel
theorem dX6_cutLoan_25 : decode cX6_cutLoan 25 = .ok (.iaload, 1) := by decide +kernel
theorem dX6_cutLoan_26 : decode cX6_cutLoan 26 = .ok (.ifCond .ne 8, 3) := by decide +kernel
theorem dX6_cutLoan_29 : decode cX6_cutLoan 29 = .ok (.aload_n 0, 1) := by decide +kernel
theorem dX6_cutLoan_30 : decode cX6_cutLoan 30 = .ok (.iload_n 1, 1) := by decide +kernel
theorem dX6_cutLoan_31 : decode cX6_cutLoan 31 = .ok (.invokevirtual 57, 3) := by decide +kernel
theorem dX6_cutLoan_34 : decode cX6_cutLoan 34 = .ok (.return_, 1) := by decide +kernel
theorem dX6_payAll_0 : decode cX6_payAll 0 = .ok (.iload_n 2, 1) := by decide +kernel
theorem dX6_payAll_1 : decode cX6_payAll 1 = .ok (.aload_n 0, 1) := by decide +kernel
theorem dX6_payAll_2 : decode cX6_payAll 2 = .ok (.getfield 7, 3) := by decide +kernel
theorem dX6_payAll_5 : decode cX6_payAll 5 = .ok (.iload_n 1, 1) := by decide +kernel
theorem dX6_payAll_6 : decode cX6_payAll 6 = .ok (.invokestatic 39, 3) := by decide +kernel
theorem dX6_payAll_9 : decode cX6_payAll 9 = .ok (.iconst 2, 1) := by decide +kernel
theorem dX6_payAll_10 : decode cX6_payAll 10 = .ok (.iadd, 1) := by decide +kernel
theorem dX6_payAll_11 : decode cX6_payAll 11 = .ok (.iaload, 1) := by decide +kernel
theorem dX6_payAll_12 : decode cX6_payAll 12 = .ok (.invokestatic 61, 3) := by decide +kernel
theorem dX6_payAll_15 : decode cX6_payAll 15 = .ok (.istore_n 3, 1) := by decide +kernel
theorem dX6_payAll_16 : decode cX6_payAll 16 = .ok (.iconst 0, 1) := by decide +kernel
theorem dX6_payAll_17 : decode cX6_payAll 17 = .ok (.istore 4, 2) := by decide +kernel
theorem dX6_payAll_19 : decode cX6_payAll 19 = .ok (.iload 4, 2) := by decide +kernel
theorem dX6_payAll_21 : decode cX6_payAll 21 = .ok (.aload_n 0, 1) := by decide +kernel
theorem dX6_payAll_22 : decode cX6_payAll 22 = .ok (.getfield 7, 3) := by decide +kernel
theorem dX6_payAll_25 : decode cX6_payAll 25 = .ok (.iconst 1, 1) := by decide +kernel
theorem dX6_payAll_26 : decode cX6_payAll 26 = .ok (.iaload, 1) := by decide +kernel
theorem dX6_payAll_27 : decode cX6_payAll 27 = .ok (.if_icmp .ge 143, 3) := by decide +kernel
theorem dX6_payAll_30 : decode cX6_payAll 30 = .ok (.iload_n 3, 1) := by decide +kernel
theorem dX6_payAll_31 : decode cX6_payAll 31 = .ok (.ifCond .le 139, 3) := by decide +kernel
theorem dX6_payAll_34 : decode cX6_payAll 34 = .ok (.aload_n 0, 1) := by decide +kernel
theorem dX6_payAll_35 : decode cX6_payAll 35 = .ok (.getfield 7, 3) := by decide +kernel
theorem dX6_payAll_38 : decode cX6_payAll 38 = .ok (.iload 4, 2) := by decide +kernel
theorem dX6_payAll_40 : decode cX6_payAll 40 = .ok (.invokestatic 50, 3) := by decide +kernel
theorem dX6_payAll_43 : decode cX6_payAll 43 = .ok (.iconst 1, 1) := by decide +kernel
theorem dX6_payAll_44 : decode cX6_payAll 44 = .ok (.iadd, 1) := by decide +kernel
theorem dX6_payAll_45 : decode cX6_payAll 45 = .ok (.iaload, 1) := by decide +kernel
theorem dX6_payAll_46 : decode cX6_payAll 46 = .ok (.iload_n 1, 1) := by decide +kernel
theorem dX6_payAll_47 : decode cX6_payAll 47 = .ok (.if_icmp .ne 117, 3) := by decide +kernel
theorem dX6_payAll_50 : decode cX6_payAll 50 = .ok (.iload_n 3, 1) := by decide +kernel
theorem dX6_payAll_51 : decode cX6_payAll 51 = .ok (.aload_n 0, 1) := by decide +kernel
theorem dX6_payAll_52 : decode cX6_payAll 52 = .ok (.getfield 7, 3) := by decide +kernel
theorem dX6_payAll_55 : decode cX6_payAll 55 = .ok (.iload 4, 2) := by decide +kernel
theorem dX6_payAll_57 : decode cX6_payAll 57 = .ok (.invokestatic 50, 3) := by decide +kernel
theorem dX6_payAll_60 : decode cX6_payAll 60 = .ok (.iconst 2, 1) := by decide +kernel
theorem dX6_payAll_61 : decode cX6_payAll 61 = .ok (.iadd, 1) := by decide +kernel
theorem dX6_payAll_62 : decode cX6_payAll 62 = .ok (.iaload, 1) := by decide +kernel
theorem dX6_payAll_63 : decode cX6_payAll 63 = .ok (.invokestatic 61, 3) := by decide +kernel
theorem dX6_payAll_66 : decode cX6_payAll 66 = .ok (.istore 5, 2) := by decide +kernel
theorem dX6_payAll_68 : decode cX6_payAll 68 = .ok (.iload 5, 2) := by decide +kernel
theorem dX6_payAll_70 : decode cX6_payAll 70 = .ok (.aload_n 0, 1) := by decide +kernel
theorem dX6_payAll_71 : decode cX6_payAll 71 = .ok (.getfield 7, 3) := by decide +kernel
theorem dX6_payAll_74 : decode cX6_payAll 74 = .ok (.iload 4, 2) := by decide +kernel
theorem dX6_payAll_76 : decode cX6_payAll 76 = .ok (.invokestatic 50, 3) := by decide +kernel
theorem dX6_payAll_79 : decode cX6_payAll 79 = .ok (.iconst 2, 1) := by decide +kernel
theorem dX6_payAll_80 : decode cX6_payAll 80 = .ok (.iadd, 1) := by decide +kernel
theorem dX6_payAll_81 : decode cX6_payAll 81 = .ok (.iaload, 1) := by decide +kernel
theorem dX6_payAll_82 : decode cX6_payAll 82 = .ok (.if_icmp .ne 7, 3) := by decide +kernel
theorem dX6_payAll_85 : decode cX6_payAll 85 = .ok (.iconst 1, 1) := by decide +kernel
theorem dX6_payAll_86 : decode cX6_payAll 86 = .ok (.goto 4, 3) := by decide +kernel
theorem dX6_payAll_89 : decode cX6_payAll 89 = .ok (.iconst 0, 1) := by decide +kernel
theorem dX6_payAll_90 : decode cX6_payAll 90 = .ok (.istore 6, 2) := by decide +kernel
theorem dX6_payAll_92 : decode cX6_payAll 92 = .ok (.aload_n 0, 1) := by decide +kernel
theorem dX6_payAll_93 : decode cX6_payAll 93 = .ok (.getfield 7, 3) := by decide +kernel
theorem dX6_payAll_96 : decode cX6_payAll 96 = .ok (.iload_n 1, 1) := by decide +kernel
theorem dX6_payAll_97 : decode cX6_payAll 97 = .ok (.invokestatic 39, 3) := by decide +kernel
theorem dX6_payAll_100 : decode cX6_payAll 100 = .ok (.iconst 2, 1) := by decide +kernel
theorem dX6_payAll_101 : decode cX6_payAll 101 = .ok (.iadd, 1) := by decide +kernel
theorem dX6_payAll_102 : decode cX6_payAll 102 = .ok (.dup2, 1) := by decide +kernel
theorem dX6_payAll_103 : decode cX6_payAll 103 = .ok (.iaload, 1) := by decide +kernel
theorem dX6_payAll_104 : decode cX6_payAll 104 = .ok (.iload 5, 2) := by decide +kernel
theorem dX6_payAll_106 : decode cX6_payAll 106 = .ok (.isub, 1) := by decide +kernel
theorem dX6_payAll_107 : decode cX6_payAll 107 = .ok (.iastore, 1) := by decide +kernel
theorem dX6_payAll_108 : decode cX6_payAll 108 = .ok (.aload_n 0, 1) := by decide +kernel
theorem dX6_payAll_109 : decode cX6_payAll 109 = .ok (.getfield 7, 3) := by decide +kernel
theorem dX6_payAll_112 : decode cX6_payAll 112 = .ok (.aload_n 0, 1) := by decide +kernel
theorem dX6_payAll_113 : decode cX6_payAll 113 = .ok (.getfield 7, 3) := by decide +kernel
theorem dX6_payAll_116 : decode cX6_payAll 116 = .ok (.iload 4, 2) := by decide +kernel
theorem dX6_payAll_118 : decode cX6_payAll 118 = .ok (.invokestatic 50, 3) := by decide +kernel
theorem dX6_payAll_121 : decode cX6_payAll 121 = .ok (.iaload, 1) := by decide +kernel
theorem dX6_payAll_122 : decode cX6_payAll 122 = .ok (.invokestatic 39, 3) := by decide +kernel
theorem dX6_payAll_125 : decode cX6_payAll 125 = .ok (.iconst 2, 1) := by decide +kernel
theorem dX6_payAll_126 : decode cX6_payAll 126 = .ok (.iadd, 1) := by decide +kernel
theorem dX6_payAll_127 : decode cX6_payAll 127 = .ok (.dup2, 1) := by decide +kernel
theorem dX6_payAll_128 : decode cX6_payAll 128 = .ok (.iaload, 1) := by decide +kernel
theorem dX6_payAll_129 : decode cX6_payAll 129 = .ok (.iload 5, 2) := by decide +kernel
theorem dX6_payAll_131 : decode cX6_payAll 131 = .ok (.iadd, 1) := by decide +kernel
theorem dX6_payAll_132 : decode cX6_payAll 132 = .ok (.iastore, 1) := by decide +kernel
theorem dX6_payAll_133 : decode cX6_payAll 133 = .ok (.iload_n 3, 1) := by decide +kernel
theorem dX6_payAll_134 : decode cX6_payAll 134 = .ok (.iload 5, 2) := by decide +kernel
theorem dX6_payAll_136 : decode cX6_payAll 136 = .ok (.isub, 1) := by decide +kernel
theorem dX6_payAll_137 : decode cX6_payAll 137 = .ok (.istore_n 3, 1) := by decide +kernel
theorem dX6_payAll_138 : decode cX6_payAll 138 = .ok (.aload_n 0, 1) := by decide +kernel
theorem dX6_payAll_139 : decode cX6_payAll 139 = .ok (.iload 4, 2) := by decide +kernel
theorem dX6_payAll_141 : decode cX6_payAll 141 = .ok (.iload 5, 2) := by decide +kernel
theorem dX6_payAll_143 : decode cX6_payAll 143 = .ok (.invokevirtual 64, 3) := by decide +kernel
theorem dX6_payAll_146 : decode cX6_payAll 146 = .ok (.iload 4, 2) := by decide +kernel
theorem dX6_payAll_148 : decode cX6_payAll 148 = .ok (.iload 6, 2) := by decide +kernel
theorem dX6_payAll_150 : decode cX6_payAll 150 = .ok (.ifCond .eq 7, 3) := by decide +kernel
theorem dX6_payAll_153 : decode cX6_payAll 153 = .ok (.iconst 0, 1) := by decide +kernel
theorem dX6_payAll_154 : decode cX6_payAll 154 = .ok (.goto 4, 3) := by decide +kernel
theorem dX6_payAll_157 : decode cX6_payAll 157 = .ok (.iconst 1, 1) := by decide +kernel
theorem dX6_payAll_158 : decode cX6_payAll 158 = .ok (.iadd, 1) := by decide +kernel
theorem dX6_payAll_159 : decode cX6_payAll 159 = .ok (.istore 4, 2) := by decide +kernel
theorem dX6_payAll_161 : decode cX6_payAll 161 = .ok (.goto (-142), 3) := by decide +kernel
theorem dX6_payAll_164 : decode cX6_payAll 164 = .ok (.iinc 4 1, 3) := by decide +kernel
theorem dX6_payAll_167 : decode cX6_payAll 167 = .ok (.goto (-148), 3) := by decide +kernel
theorem dX6_payAll_170 : decode cX6_payAll 170 = .ok (.return_, 1) := by decide +kernel
theorem dX6_lentBy_0 : decode cX6_lentBy 0 = .ok (.iconst 0, 1) := by decide +kernel
theorem dX6_lentBy_1 : decode cX6_lentBy 1 = .ok (.istore_n 2, 1) := by decide +kernel
theorem dX6_lentBy_2 : decode cX6_lentBy 2 = .ok (.iconst 0, 1) := by decide +kernel
theorem dX6_lentBy_3 : decode cX6_lentBy 3 = .ok (.istore_n 3, 1) := by decide +kernel
theorem dX6_lentBy_4 : decode cX6_lentBy 4 = .ok (.iload_n 3, 1) := by decide +kernel
theorem dX6_lentBy_5 : decode cX6_lentBy 5 = .ok (.aload_n 0, 1) := by decide +kernel
theorem dX6_lentBy_6 : decode cX6_lentBy 6 = .ok (.getfield 7, 3) := by decide +kernel
theorem dX6_lentBy_9 : decode cX6_lentBy 9 = .ok (.iconst 1, 1) := by decide +kernel
theorem dX6_lentBy_10 : decode cX6_lentBy 10 = .ok (.iaload, 1) := by decide +kernel
theorem dX6_lentBy_11 : decode cX6_lentBy 11 = .ok (.if_icmp .ge 40, 3) := by decide +kernel
theorem dX6_lentBy_14 : decode cX6_lentBy 14 = .ok (.iload_n 2, 1) := by decide +kernel
theorem dX6_lentBy_15 : decode cX6_lentBy 15 = .ok (.aload_n 0, 1) := by decide +kernel
theorem dX6_lentBy_16 : decode cX6_lentBy 16 = .ok (.getfield 7, 3) := by decide +kernel
theorem dX6_lentBy_19 : decode cX6_lentBy 19 = .ok (.iload_n 3, 1) := by decide +kernel
theorem dX6_lentBy_20 : decode cX6_lentBy 20 = .ok (.invokestatic 50, 3) := by decide +kernel
theorem dX6_lentBy_23 : decode cX6_lentBy 23 = .ok (.iaload, 1) := by decide +kernel
theorem dX6_lentBy_24 : decode cX6_lentBy 24 = .ok (.iload_n 1, 1) := by decide +kernel
theorem dX6_lentBy_25 : decode cX6_lentBy 25 = .ok (.if_icmp .ne 17, 3) := by decide +kernel
theorem dX6_lentBy_28 : decode cX6_lentBy 28 = .ok (.aload_n 0, 1) := by decide +kernel
theorem dX6_lentBy_29 : decode cX6_lentBy 29 = .ok (.getfield 7, 3) := by decide +kernel
theorem dX6_lentBy_32 : decode cX6_lentBy 32 = .ok (.iload_n 3, 1) := by decide +kernel
theorem dX6_lentBy_33 : decode cX6_lentBy 33 = .ok (.invokestatic 50, 3) := by decide +kernel
theorem dX6_lentBy_36 : decode cX6_lentBy 36 = .ok (.iconst 2, 1) := by decide +kernel
theorem dX6_lentBy_37 : decode cX6_lentBy 37 = .ok (.iadd, 1) := by decide +kernel
theorem dX6_lentBy_38 : decode cX6_lentBy 38 = .ok (.iaload, 1) := by decide +kernel
theorem dX6_lentBy_39 : decode cX6_lentBy 39 = .ok (.goto 4, 3) := by decide +kernel
theorem dX6_lentBy_42 : decode cX6_lentBy 42 = .ok (.iconst 0, 1) := by decide +kernel
theorem dX6_lentBy_43 : decode cX6_lentBy 43 = .ok (.iadd, 1) := by decide +kernel
theorem dX6_lentBy_44 : decode cX6_lentBy 44 = .ok (.istore_n 2, 1) := by decide +kernel
theorem dX6_lentBy_45 : decode cX6_lentBy 45 = .ok (.iinc 3 1, 3) := by decide +kernel
theorem dX6_lentBy_48 : decode cX6_lentBy 48 = .ok (.goto (-44), 3) := by decide +kernel
theorem dX6_lentBy_51 : decode cX6_lentBy 51 = .ok (.iload_n 2, 1) := by decide +kernel
theorem dX6_lentBy_52 : decode cX6_lentBy 52 = .ok (.ireturn, 1) := by decide +kernel
theorem dX6_owedBy_0 : decode cX6_owedBy 0 = .ok (.iconst 0, 1) := by decide +kernel
theorem dX6_owedBy_1 : decode cX6_owedBy 1 = .ok (.istore_n 2, 1) := by decide +kernel
theorem dX6_owedBy_2 : decode cX6_owedBy 2 = .ok (.iconst 0, 1) := by decide +kernel
theorem dX6_owedBy_3 : decode cX6_owedBy 3 = .ok (.istore_n 3, 1) := by decide +kernel
theorem dX6_owedBy_4 : decode cX6_owedBy 4 = .ok (.iload_n 3, 1) := by decide +kernel
theorem dX6_owedBy_5 : decode cX6_owedBy 5 = .ok (.aload_n 0, 1) := by decide +kernel
theorem dX6_owedBy_6 : decode cX6_owedBy 6 = .ok (.getfield 7, 3) := by decide +kernel
theorem dX6_owedBy_9 : decode cX6_owedBy 9 = .ok (.iconst 1, 1) := by decide +kernel
theorem dX6_owedBy_10 : decode cX6_owedBy 10 = .ok (.iaload, 1) := by decide +kernel
theorem dX6_owedBy_11 : decode cX6_owedBy 11 = .ok (.if_icmp .ge 42, 3) := by decide +kernel
theorem dX6_owedBy_14 : decode cX6_owedBy 14 = .ok (.iload_n 2, 1) := by decide +kernel
theorem dX6_owedBy_15 : decode cX6_owedBy 15 = .ok (.aload_n 0, 1) := by decide +kernel
theorem dX6_owedBy_16 : decode cX6_owedBy 16 = .ok (.getfield 7, 3) := by decide +kernel
theorem dX6_owedBy_19 : decode cX6_owedBy 19 = .ok (.iload_n 3, 1) := by decide +kernel
theorem dX6_owedBy_20 : decode cX6_owedBy 20 = .ok (.invokestatic 50, 3) := by decide +kernel
theorem dX6_owedBy_23 : decode cX6_owedBy 23 = .ok (.iconst 1, 1) := by decide +kernel
theorem dX6_owedBy_24 : decode cX6_owedBy 24 = .ok (.iadd, 1) := by decide +kernel
theorem dX6_owedBy_25 : decode cX6_owedBy 25 = .ok (.iaload, 1) := by decide +kernel
theorem dX6_owedBy_26 : decode cX6_owedBy 26 = .ok (.iload_n 1, 1) := by decide +kernel
theorem dX6_owedBy_27 : decode cX6_owedBy 27 = .ok (.if_icmp .ne 17, 3) := by decide +kernel
theorem dX6_owedBy_30 : decode cX6_owedBy 30 = .ok (.aload_n 0, 1) := by decide +kernel
theorem dX6_owedBy_31 : decode cX6_owedBy 31 = .ok (.getfield 7, 3) := by decide +kernel
theorem dX6_owedBy_34 : decode cX6_owedBy 34 = .ok (.iload_n 3, 1) := by decide +kernel
theorem dX6_owedBy_35 : decode cX6_owedBy 35 = .ok (.invokestatic 50, 3) := by decide +kernel
theorem dX6_owedBy_38 : decode cX6_owedBy 38 = .ok (.iconst 2, 1) := by decide +kernel
theorem dX6_owedBy_39 : decode cX6_owedBy 39 = .ok (.iadd, 1) := by decide +kernel
theorem dX6_owedBy_40 : decode cX6_owedBy 40 = .ok (.iaload, 1) := by decide +kernel
theorem dX6_owedBy_41 : decode cX6_owedBy 41 = .ok (.goto 4, 3) := by decide +kernel
theorem dX6_owedBy_44 : decode cX6_owedBy 44 = .ok (.iconst 0, 1) := by decide +kernel
theorem dX6_owedBy_45 : decode cX6_owedBy 45 = .ok (.iadd, 1) := by decide +kernel
theorem dX6_owedBy_46 : decode cX6_owedBy 46 = .ok (.istore_n 2, 1) := by decide +kernel
theorem dX6_owedBy_47 : decode cX6_owedBy 47 = .ok (.iinc 3 1, 3) := by decide +kernel
theorem dX6_owedBy_50 : decode cX6_owedBy 50 = .ok (.goto (-46), 3) := by decide +kernel
theorem dX6_owedBy_53 : decode cX6_owedBy 53 = .ok (.iload_n 2, 1) := by decide +kernel
theorem dX6_owedBy_54 : decode cX6_owedBy 54 = .ok (.ireturn, 1) := by decide +kernel
theorem dX6_canLend_0 : decode cX6_canLend 0 = .ok (.iload_n 1, 1) := by decide +kernel
theorem dX6_canLend_1 : decode cX6_canLend 1 = .ok (.invokestatic 39, 3) := by decide +kernel
theorem dX6_canLend_4 : decode cX6_canLend 4 = .ok (.istore_n 2, 1) := by decide +kernel
theorem dX6_canLend_5 : decode cX6_canLend 5 = .ok (.aload_n 0, 1) := by decide +kernel
theorem dX6_canLend_6 : decode cX6_canLend 6 = .ok (.getfield 7, 3) := by decide +kernel
theorem dX6_canLend_9 : decode cX6_canLend 9 = .ok (.iload_n 2, 1) := by decide +kernel
theorem dX6_canLend_10 : decode cX6_canLend 10 = .ok (.iconst 2, 1) := by decide +kernel
theorem dX6_canLend_11 : decode cX6_canLend 11 = .ok (.iadd, 1) := by decide +kernel
theorem dX6_canLend_12 : decode cX6_canLend 12 = .ok (.iaload, 1) := by decide +kernel
theorem dX6_canLend_13 : decode cX6_canLend 13 = .ok (.aload_n 0, 1) := by decide +kernel
theorem dX6_canLend_14 : decode cX6_canLend 14 = .ok (.getfield 7, 3) := by decide +kernel
theorem dX6_canLend_17 : decode cX6_canLend 17 = .ok (.iload_n 2, 1) := by decide +kernel
theorem dX6_canLend_18 : decode cX6_canLend 18 = .ok (.iconst 1, 1) := by decide +kernel
theorem dX6_canLend_19 : decode cX6_canLend 19 = .ok (.iadd, 1) := by decide +kernel
theorem dX6_canLend_20 : decode cX6_canLend 20 = .ok (.iaload, 1) := by decide +kernel
theorem dX6_canLend_21 : decode cX6_canLend 21 = .ok (.aload_n 0, 1) := by decide +kernel
theorem dX6_canLend_22 : decode cX6_canLend 22 = .ok (.getfield 7, 3) := by decide +kernel
theorem dX6_canLend_25 : decode cX6_canLend 25 = .ok (.iconst 4, 1) := by decide +kernel
theorem dX6_canLend_26 : decode cX6_canLend 26 = .ok (.iaload, 1) := by decide +kernel
theorem dX6_canLend_27 : decode cX6_canLend 27 = .ok (.imul, 1) := by decide +kernel
theorem dX6_canLend_28 : decode cX6_canLend 28 = .ok (.bipush 100, 2) := by decide +kernel
theorem dX6_canLend_30 : decode cX6_canLend 30 = .ok (.idiv, 1) := by decide +kernel
theorem dX6_canLend_31 : decode cX6_canLend 31 = .ok (.isub, 1) := by decide +kernel
theorem dX6_canLend_32 : decode cX6_canLend 32 = .ok (.istore_n 3, 1) := by decide +kernel
theorem dX6_canLend_33 : decode cX6_canLend 33 = .ok (.aload_n 0, 1) := by decide +kernel
theorem dX6_canLend_34 : decode cX6_canLend 34 = .ok (.iload_n 1, 1) := by decide +kernel
theorem dX6_canLend_35 : decode cX6_canLend 35 = .ok (.invokevirtual 43, 3) := by decide +kernel
theorem dX6_canLend_38 : decode cX6_canLend 38 = .ok (.ifCond .eq 11, 3) := by decide +kernel
theorem dX6_canLend_41 : decode cX6_canLend 41 = .ok (.iload_n 3, 1) := by decide +kernel
theorem dX6_canLend_42 : decode cX6_canLend 42 = .ok (.ifCond .le 7, 3) := by decide +kernel
theorem dX6_canLend_45 : decode cX6_canLend 45 = .ok (.iload_n 3, 1) := by decide +kernel
theorem dX6_canLend_46 : decode cX6_canLend 46 = .ok (.goto 4, 3) := by decide +kernel
theorem dX6_canLend_49 : decode cX6_canLend 49 = .ok (.iconst 0, 1) := by decide +kernel
theorem dX6_canLend_50 : decode cX6_canLend 50 = .ok (.ireturn, 1) := by decide +kernel
theorem dX6_merit_0 : decode cX6_merit 0 = .ok (.aload_n 0, 1) := by decide +kernel
theorem dX6_merit_1 : decode cX6_merit 1 = .ok (.getfield 7, 3) := by decide +kernel
theorem dX6_merit_4 : decode cX6_merit 4 = .ok (.iconst 3, 1) := by decide +kernel
theorem dX6_merit_5 : decode cX6_merit 5 = .ok (.iaload, 1) := by decide +kernel
theorem dX6_merit_6 : decode cX6_merit 6 = .ok (.ifCond .ne 13, 3) := by decide +kernel
theorem dX6_merit_9 : decode cX6_merit 9 = .ok (.aload_n 0, 1) := by decide +kernel
theorem dX6_merit_10 : decode cX6_merit 10 = .ok (.getfield 7, 3) := by decide +kernel
theorem dX6_merit_13 : decode cX6_merit 13 = .ok (.iload_n 1, 1) := by decide +kernel
theorem dX6_merit_14 : decode cX6_merit 14 = .ok (.invokestatic 39, 3) := by decide +kernel
theorem dX6_merit_17 : decode cX6_merit 17 = .ok (.iaload, 1) := by decide +kernel
theorem dX6_merit_18 : decode cX6_merit 18 = .ok (.ireturn, 1) := by decide +kernel
theorem dX6_merit_19 : decode cX6_merit 19 = .ok (.aload_n 0, 1) := by decide +kernel
theorem dX6_merit_20 : decode cX6_merit 20 = .ok (.getfield 7, 3) := by decide +kernel
theorem dX6_merit_23 : decode cX6_merit 23 = .ok (.iconst 3, 1) := by decide +kernel
theorem dX6_merit_24 : decode cX6_merit 24 = .ok (.iaload, 1) := by decide +kernel
theorem dX6_merit_25 : decode cX6_merit 25 = .ok (.iconst 1, 1) := by decide +kernel
theorem dX6_merit_26 : decode cX6_merit 26 = .ok (.if_icmp .ne 11, 3) := by decide +kernel
theorem dX6_merit_29 : decode cX6_merit 29 = .ok (.aload_n 0, 1) := by decide +kernel
theorem dX6_merit_30 : decode cX6_merit 30 = .ok (.iload_n 1, 1) := by decide +kernel
theorem dX6_merit_31 : decode cX6_merit 31 = .ok (.invokevirtual 68, 3) := by decide +kernel
theorem dX6_merit_34 : decode cX6_merit 34 = .ok (.goto 9, 3) := by decide +kernel
theorem dX6_merit_37 : decode cX6_merit 37 = .ok (.aload_n 0, 1) := by decide +kernel
theorem dX6_merit_38 : decode cX6_merit 38 = .ok (.iload_n 1, 1) := by decide +kernel
theorem dX6_merit_39 : decode cX6_merit 39 = .ok (.invokevirtual 71, 3) := by decide +kernel
theorem dX6_merit_42 : decode cX6_merit 42 = .ok (.ineg, 1) := by decide +kernel
theorem dX6_merit_43 : decode cX6_merit 43 = .ok (.ireturn, 1) := by decide +kernel
theorem dX6_layOrder_0 : decode cX6_layOrder 0 = .ok (.iconst 1, 1) := by decide +kernel
theorem dX6_layOrder_1 : decode cX6_layOrder 1 = .ok (.iload_n 1, 1) := by decide +kernel
theorem dX6_layOrder_2 : decode cX6_layOrder 2 = .ok (.ishl, 1) := by decide +kernel
theorem dX6_layOrder_3 : decode cX6_layOrder 3 = .ok (.istore_n 2, 1) := by decide +kernel
theorem dX6_layOrder_4 : decode cX6_layOrder 4 = .ok (.aload_n 0, 1) := by decide +kernel
theorem dX6_layOrder_5 : decode cX6_layOrder 5 = .ok (.iconst 0, 1) := by decide +kernel
theorem dX6_layOrder_6 : decode cX6_layOrder 6 = .ok (.putfield 74, 3) := by decide +kernel
theorem dX6_layOrder_9 : decode cX6_layOrder 9 = .ok (.aload_n 0, 1) := by decide +kernel
theorem dX6_layOrder_10 : decode cX6_layOrder 10 = .ok (.iload_n 1, 1) := by decide +kernel
theorem dX6_layOrder_11 : decode cX6_layOrder 11 = .ok (.invokevirtual 43, 3) := by decide +kernel
theorem dX6_layOrder_14 : decode cX6_layOrder 14 = .ok (.istore_n 3, 1) := by decide +kernel
theorem dX6_layOrder_15 : decode cX6_layOrder 15 = .ok (.iload_n 3, 1) := by decide +kernel
theorem dX6_layOrder_16 : decode cX6_layOrder 16 = .ok (.ifCond .eq 133, 3) := by decide +kernel
theorem dX6_layOrder_19 : decode cX6_layOrder 19 = .ok (.iconst (-1), 1) := by decide +kernel
theorem dX6_layOrder_20 : decode cX6_layOrder 20 = .ok (.istore 4, 2) := by decide +kernel
theorem dX6_layOrder_22 : decode cX6_layOrder 22 = .ok (.iconst 0, 1) := by decide +kernel
theorem dX6_layOrder_23 : decode cX6_layOrder 23 = .ok (.istore 5, 2) := by decide +kernel
theorem dX6_layOrder_25 : decode cX6_layOrder 25 = .ok (.iload 5, 2) := by decide +kernel
theorem dX6_layOrder_27 : decode cX6_layOrder 27 = .ok (.aload_n 0, 1) := by decide +kernel
theorem dX6_layOrder_28 : decode cX6_layOrder 28 = .ok (.getfield 7, 3) := by decide +kernel
theorem dX6_layOrder_31 : decode cX6_layOrder 31 = .ok (.iconst 0, 1) := by decide +kernel
theorem dX6_layOrder_32 : decode cX6_layOrder 32 = .ok (.iaload, 1) := by decide +kernel
theorem dX6_layOrder_33 : decode cX6_layOrder 33 = .ok (.if_icmp .ge 69, 3) := by decide +kernel
theorem dX6_layOrder_36 : decode cX6_layOrder 36 = .ok (.iload_n 2, 1) := by decide +kernel
theorem dX6_layOrder_37 : decode cX6_layOrder 37 = .ok (.iload 5, 2) := by decide +kernel
theorem dX6_layOrder_39 : decode cX6_layOrder 39 = .ok (.ishr, 1) := by decide +kernel
theorem dX6_layOrder_40 : decode cX6_layOrder 40 = .ok (.iconst 1, 1) := by decide +kernel
theorem dX6_layOrder_41 : decode cX6_layOrder 41 = .ok (.iand, 1) := by decide +kernel
theorem dX6_layOrder_42 : decode cX6_layOrder 42 = .ok (.ifCond .ne 16, 3) := by decide +kernel
theorem dX6_layOrder_45 : decode cX6_layOrder 45 = .ok (.aload_n 0, 1) := by decide +kernel
theorem dX6_layOrder_46 : decode cX6_layOrder 46 = .ok (.iload 5, 2) := by decide +kernel
theorem dX6_layOrder_48 : decode cX6_layOrder 48 = .ok (.invokevirtual 68, 3) := by decide +kernel
theorem dX6_layOrder_51 : decode cX6_layOrder 51 = .ok (.ifCond .le 7, 3) := by decide +kernel
theorem dX6_layOrder_54 : decode cX6_layOrder 54 = .ok (.iconst 1, 1) := by decide +kernel
theorem dX6_layOrder_55 : decode cX6_layOrder 55 = .ok (.goto 4, 3) := by decide +kernel
theorem dX6_layOrder_58 : decode cX6_layOrder 58 = .ok (.iconst 0, 1) := by decide +kernel
theorem dX6_layOrder_59 : decode cX6_layOrder 59 = .ok (.istore 6, 2) := by decide +kernel
theorem dX6_layOrder_61 : decode cX6_layOrder 61 = .ok (.iload 6, 2) := by decide +kernel
theorem dX6_layOrder_63 : decode cX6_layOrder 63 = .ok (.ifCond .eq 29, 3) := by decide +kernel
theorem dX6_layOrder_66 : decode cX6_layOrder 66 = .ok (.iload 4, 2) := by decide +kernel
theorem dX6_layOrder_68 : decode cX6_layOrder 68 = .ok (.iconst (-1), 1) := by decide +kernel
theorem dX6_layOrder_69 : decode cX6_layOrder 69 = .ok (.if_icmp .eq 18, 3) := by decide +kernel
theorem dX6_layOrder_72 : decode cX6_layOrder 72 = .ok (.aload_n 0, 1) := by decide +kernel
theorem dX6_layOrder_73 : decode cX6_layOrder 73 = .ok (.iload 5, 2) := by decide +kernel
theorem dX6_layOrder_75 : decode cX6_layOrder 75 = .ok (.invokevirtual 77, 3) := by decide +kernel
theorem dX6_layOrder_78 : decode cX6_layOrder 78 = .ok (.aload_n 0, 1) := by decide +kernel
theorem dX6_layOrder_79 : decode cX6_layOrder 79 = .ok (.iload 4, 2) := by decide +kernel
theorem dX6_layOrder_81 : decode cX6_layOrder 81 = .ok (.invokevirtual 77, 3) := by decide +kernel
theorem dX6_layOrder_84 : decode cX6_layOrder 84 = .ok (.if_icmp .le 8, 3) := by decide +kernel
theorem dX6_layOrder_87 : decode cX6_layOrder 87 = .ok (.iload 5, 2) := by decide +kernel
theorem dX6_layOrder_89 : decode cX6_layOrder 89 = .ok (.goto 5, 3) := by decide +kernel
theorem dX6_layOrder_92 : decode cX6_layOrder 92 = .ok (.iload 4, 2) := by decide +kernel
theorem dX6_layOrder_94 : decode cX6_layOrder 94 = .ok (.istore 4, 2) := by decide +kernel
theorem dX6_layOrder_96 : decode cX6_layOrder 96 = .ok (.iinc 5 1, 3) := by decide +kernel
theorem dX6_layOrder_99 : decode cX6_layOrder 99 = .ok (.goto (-74), 3) := by decide +kernel
theorem dX6_layOrder_102 : decode cX6_layOrder 102 = .ok (.iload 4, 2) := by decide +kernel
theorem dX6_layOrder_104 : decode cX6_layOrder 104 = .ok (.iconst (-1), 1) := by decide +kernel
theorem dX6_layOrder_105 : decode cX6_layOrder 105 = .ok (.if_icmp .eq 7, 3) := by decide +kernel
theorem dX6_layOrder_108 : decode cX6_layOrder 108 = .ok (.iconst 1, 1) := by decide +kernel
theorem dX6_layOrder_109 : decode cX6_layOrder 109 = .ok (.goto 4, 3) := by decide +kernel
theorem dX6_layOrder_112 : decode cX6_layOrder 112 = .ok (.iconst 0, 1) := by decide +kernel
theorem dX6_layOrder_113 : decode cX6_layOrder 113 = .ok (.istore_n 3, 1) := by decide +kernel
theorem dX6_layOrder_114 : decode cX6_layOrder 114 = .ok (.iload_n 3, 1) := by decide +kernel
theorem dX6_layOrder_115 : decode cX6_layOrder 115 = .ok (.ifCond .eq 31, 3) := by decide +kernel
theorem dX6_layOrder_118 : decode cX6_layOrder 118 = .ok (.aload_n 0, 1) := by decide +kernel
theorem dX6_layOrder_119 : decode cX6_layOrder 119 = .ok (.getfield 22, 3) := by decide +kernel
theorem dX6_layOrder_122 : decode cX6_layOrder 122 = .ok (.aload_n 0, 1) := by decide +kernel
theorem dX6_layOrder_123 : decode cX6_layOrder 123 = .ok (.getfield 74, 3) := by decide +kernel
theorem dX6_layOrder_126 : decode cX6_layOrder 126 = .ok (.iload 4, 2) := by decide +kernel
theorem dX6_layOrder_128 : decode cX6_layOrder 128 = .ok (.iastore, 1) := by decide +kernel
theorem dX6_layOrder_129 : decode cX6_layOrder 129 = .ok (.aload_n 0, 1) := by decide +kernel
theorem dX6_layOrder_130 : decode cX6_layOrder 130 = .ok (.dup, 1) := by decide +kernel
theorem dX6_layOrder_131 : decode cX6_layOrder 131 = .ok (.getfield 74, 3) := by decide +kernel
theorem dX6_layOrder_134 : decode cX6_layOrder 134 = .ok (.iconst 1, 1) := by decide +kernel
theorem dX6_layOrder_135 : decode cX6_layOrder 135 = .ok (.iadd, 1) := by decide +kernel
theorem dX6_layOrder_136 : decode cX6_layOrder 136 = .ok (.putfield 74, 3) := by decide +kernel
theorem dX6_layOrder_139 : decode cX6_layOrder 139 = .ok (.iload_n 2, 1) := by decide +kernel
theorem dX6_layOrder_140 : decode cX6_layOrder 140 = .ok (.iconst 1, 1) := by decide +kernel
theorem dX6_layOrder_141 : decode cX6_layOrder 141 = .ok (.iload 4, 2) := by decide +kernel
theorem dX6_layOrder_143 : decode cX6_layOrder 143 = .ok (.ishl, 1) := by decide +kernel
theorem dX6_layOrder_144 : decode cX6_layOrder 144 = .ok (.ior, 1) := by decide +kernel
theorem dX6_layOrder_145 : decode cX6_layOrder 145 = .ok (.istore_n 2, 1) := by decide +kernel
theorem dX6_layOrder_146 : decode cX6_layOrder 146 = .ok (.goto (-131), 3) := by decide +kernel
theorem dX6_layOrder_149 : decode cX6_layOrder 149 = .ok (.return_, 1) := by decide +kernel
theorem dX6_callBack_0 : decode cX6_callBack 0 = .ok (.iload_n 2, 1) := by decide +kernel
theorem dX6_callBack_1 : decode cX6_callBack 1 = .ok (.istore_n 3, 1) := by decide +kernel
theorem dX6_callBack_2 : decode cX6_callBack 2 = .ok (.iconst 0, 1) := by decide +kernel
theorem dX6_callBack_3 : decode cX6_callBack 3 = .ok (.istore 4, 2) := by decide +kernel
theorem dX6_callBack_5 : decode cX6_callBack 5 = .ok (.iload 4, 2) := by decide +kernel
theorem dX6_callBack_7 : decode cX6_callBack 7 = .ok (.aload_n 0, 1) := by decide +kernel
theorem dX6_callBack_8 : decode cX6_callBack 8 = .ok (.getfield 7, 3) := by decide +kernel
theorem dX6_callBack_11 : decode cX6_callBack 11 = .ok (.iconst 1, 1) := by decide +kernel
theorem dX6_callBack_12 : decode cX6_callBack 12 = .ok (.iaload, 1) := by decide +kernel
theorem dX6_callBack_13 : decode cX6_callBack 13 = .ok (.if_icmp .ge 140, 3) := by decide +kernel
theorem dX6_callBack_16 : decode cX6_callBack 16 = .ok (.iload_n 3, 1) := by decide +kernel
theorem dX6_callBack_17 : decode cX6_callBack 17 = .ok (.ifCond .le 136, 3) := by decide +kernel
theorem dX6_callBack_20 : decode cX6_callBack 20 = .ok (.iconst 0, 1) := by decide +kernel
theorem dX6_callBack_21 : decode cX6_callBack 21 = .ok (.istore 5, 2) := by decide +kernel
theorem dX6_callBack_23 : decode cX6_callBack 23 = .ok (.aload_n 0, 1) := by decide +kernel
theorem dX6_callBack_24 : decode cX6_callBack 24 = .ok (.getfield 7, 3) := by decide +kernel
theorem dX6_callBack_27 : decode cX6_callBack 27 = .ok (.iload 4, 2) := by decide +kernel
theorem dX6_callBack_29 : decode cX6_callBack 29 = .ok (.invokestatic 50, 3) := by decide +kernel
theorem dX6_callBack_32 : decode cX6_callBack 32 = .ok (.iaload, 1) := by decide +kernel
theorem dX6_callBack_33 : decode cX6_callBack 33 = .ok (.iload_n 1, 1) := by decide +kernel
theorem dX6_callBack_34 : decode cX6_callBack 34 = .ok (.if_icmp .ne 101, 3) := by decide +kernel
theorem dX6_callBack_37 : decode cX6_callBack 37 = .ok (.aload_n 0, 1) := by decide +kernel
theorem dX6_callBack_38 : decode cX6_callBack 38 = .ok (.getfield 7, 3) := by decide +kernel
theorem dX6_callBack_41 : decode cX6_callBack 41 = .ok (.iload 4, 2) := by decide +kernel
theorem dX6_callBack_43 : decode cX6_callBack 43 = .ok (.invokestatic 50, 3) := by decide +kernel
theorem dX6_callBack_46 : decode cX6_callBack 46 = .ok (.iconst 1, 1) := by decide +kernel
theorem dX6_callBack_47 : decode cX6_callBack 47 = .ok (.iadd, 1) := by decide +kernel
theorem dX6_callBack_48 : decode cX6_callBack 48 = .ok (.iaload, 1) := by decide +kernel
theorem dX6_callBack_49 : decode cX6_callBack 49 = .ok (.invokestatic 39, 3) := by decide +kernel
theorem dX6_callBack_52 : decode cX6_callBack 52 = .ok (.istore 6, 2) := by decide +kernel
theorem dX6_callBack_54 : decode cX6_callBack 54 = .ok (.iload_n 3, 1) := by decide +kernel
theorem dX6_callBack_55 : decode cX6_callBack 55 = .ok (.aload_n 0, 1) := by decide +kernel
theorem dX6_callBack_56 : decode cX6_callBack 56 = .ok (.getfield 7, 3) := by decide +kernel
theorem dX6_callBack_59 : decode cX6_callBack 59 = .ok (.iload 4, 2) := by decide +kernel
theorem dX6_callBack_61 : decode cX6_callBack 61 = .ok (.invokestatic 50, 3) := by decide +kernel
theorem dX6_callBack_64 : decode cX6_callBack 64 = .ok (.iconst 2, 1) := by decide +kernel
theorem dX6_callBack_65 : decode cX6_callBack 65 = .ok (.iadd, 1) := by decide +kernel
theorem dX6_callBack_66 : decode cX6_callBack 66 = .ok (.iaload, 1) := by decide +kernel
theorem dX6_callBack_67 : decode cX6_callBack 67 = .ok (.aload_n 0, 1) := by decide +kernel
theorem dX6_callBack_68 : decode cX6_callBack 68 = .ok (.getfield 7, 3) := by decide +kernel
theorem dX6_callBack_71 : decode cX6_callBack 71 = .ok (.iload 6, 2) := by decide +kernel
theorem dX6_callBack_73 : decode cX6_callBack 73 = .ok (.iconst 2, 1) := by decide +kernel
theorem dX6_callBack_74 : decode cX6_callBack 74 = .ok (.iadd, 1) := by decide +kernel
theorem dX6_callBack_75 : decode cX6_callBack 75 = .ok (.iaload, 1) := by decide +kernel
theorem dX6_callBack_76 : decode cX6_callBack 76 = .ok (.invokestatic 61, 3) := by decide +kernel
theorem dX6_callBack_79 : decode cX6_callBack 79 = .ok (.invokestatic 61, 3) := by decide +kernel
theorem dX6_callBack_82 : decode cX6_callBack 82 = .ok (.istore 7, 2) := by decide +kernel
theorem dX6_callBack_84 : decode cX6_callBack 84 = .ok (.iload 7, 2) := by decide +kernel
theorem dX6_callBack_86 : decode cX6_callBack 86 = .ok (.aload_n 0, 1) := by decide +kernel
theorem dX6_callBack_87 : decode cX6_callBack 87 = .ok (.getfield 7, 3) := by decide +kernel
theorem dX6_callBack_90 : decode cX6_callBack 90 = .ok (.iload 4, 2) := by decide +kernel
theorem dX6_callBack_92 : decode cX6_callBack 92 = .ok (.invokestatic 50, 3) := by decide +kernel
theorem dX6_callBack_95 : decode cX6_callBack 95 = .ok (.iconst 2, 1) := by decide +kernel
theorem dX6_callBack_96 : decode cX6_callBack 96 = .ok (.iadd, 1) := by decide +kernel
theorem dX6_callBack_97 : decode cX6_callBack 97 = .ok (.iaload, 1) := by decide +kernel
theorem dX6_callBack_98 : decode cX6_callBack 98 = .ok (.if_icmp .ne 7, 3) := by decide +kernel
theorem dX6_callBack_101 : decode cX6_callBack 101 = .ok (.iconst 1, 1) := by decide +kernel
theorem dX6_callBack_102 : decode cX6_callBack 102 = .ok (.goto 4, 3) := by decide +kernel
theorem dX6_callBack_105 : decode cX6_callBack 105 = .ok (.iconst 0, 1) := by decide +kernel
theorem dX6_callBack_106 : decode cX6_callBack 106 = .ok (.istore 5, 2) := by decide +kernel
theorem dX6_callBack_108 : decode cX6_callBack 108 = .ok (.aload_n 0, 1) := by decide +kernel
theorem dX6_callBack_109 : decode cX6_callBack 109 = .ok (.getfield 7, 3) := by decide +kernel
theorem dX6_callBack_112 : decode cX6_callBack 112 = .ok (.iload 6, 2) := by decide +kernel
theorem dX6_callBack_114 : decode cX6_callBack 114 = .ok (.iconst 2, 1) := by decide +kernel
theorem dX6_callBack_115 : decode cX6_callBack 115 = .ok (.iadd, 1) := by decide +kernel
theorem dX6_callBack_116 : decode cX6_callBack 116 = .ok (.dup2, 1) := by decide +kernel
theorem dX6_callBack_117 : decode cX6_callBack 117 = .ok (.iaload, 1) := by decide +kernel
theorem dX6_callBack_118 : decode cX6_callBack 118 = .ok (.iload 7, 2) := by decide +kernel
theorem dX6_callBack_120 : decode cX6_callBack 120 = .ok (.isub, 1) := by decide +kernel
theorem dX6_callBack_121 : decode cX6_callBack 121 = .ok (.iastore, 1) := by decide +kernel
theorem dX6_callBack_122 : decode cX6_callBack 122 = .ok (.iload_n 3, 1) := by decide +kernel
theorem dX6_callBack_123 : decode cX6_callBack 123 = .ok (.iload 7, 2) := by decide +kernel
theorem dX6_callBack_125 : decode cX6_callBack 125 = .ok (.isub, 1) := by decide +kernel
theorem dX6_callBack_126 : decode cX6_callBack 126 = .ok (.istore_n 3, 1) := by decide +kernel
theorem dX6_callBack_127 : decode cX6_callBack 127 = .ok (.aload_n 0, 1) := by decide +kernel
theorem dX6_callBack_128 : decode cX6_callBack 128 = .ok (.iload 4, 2) := by decide +kernel
theorem dX6_callBack_130 : decode cX6_callBack 130 = .ok (.iload 7, 2) := by decide +kernel
theorem dX6_callBack_132 : decode cX6_callBack 132 = .ok (.invokevirtual 64, 3) := by decide +kernel
theorem dX6_callBack_135 : decode cX6_callBack 135 = .ok (.iload 4, 2) := by decide +kernel
theorem dX6_callBack_137 : decode cX6_callBack 137 = .ok (.iload 5, 2) := by decide +kernel
theorem dX6_callBack_139 : decode cX6_callBack 139 = .ok (.ifCond .eq 7, 3) := by decide +kernel
theorem dX6_callBack_142 : decode cX6_callBack 142 = .ok (.iconst 0, 1) := by decide +kernel
theorem dX6_callBack_143 : decode cX6_callBack 143 = .ok (.goto 4, 3) := by decide +kernel
theorem dX6_callBack_146 : decode cX6_callBack 146 = .ok (.iconst 1, 1) := by decide +kernel
theorem dX6_callBack_147 : decode cX6_callBack 147 = .ok (.iadd, 1) := by decide +kernel
theorem dX6_callBack_148 : decode cX6_callBack 148 = .ok (.istore 4, 2) := by decide +kernel
theorem dX6_callBack_150 : decode cX6_callBack 150 = .ok (.goto (-145), 3) := by decide +kernel
theorem dX6_callBack_153 : decode cX6_callBack 153 = .ok (.aload_n 0, 1) := by decide +kernel
theorem dX6_callBack_154 : decode cX6_callBack 154 = .ok (.iload_n 2, 1) := by decide +kernel
theorem dX6_callBack_155 : decode cX6_callBack 155 = .ok (.iload_n 3, 1) := by decide +kernel
theorem dX6_callBack_156 : decode cX6_callBack 156 = .ok (.isub, 1) := by decide +kernel
theorem dX6_callBack_157 : decode cX6_callBack 157 = .ok (.putfield 80, 3) := by decide +kernel
theorem dX6_callBack_160 : decode cX6_callBack 160 = .ok (.return_, 1) := by decide +kernel
theorem dX6_borrow_0 : decode cX6_borrow 0 = .ok (.iload_n 2, 1) := by decide +kernel
theorem dX6_borrow_1 : decode cX6_borrow 1 = .ok (.istore_n 3, 1) := by decide +kernel
theorem dX6_borrow_2 : decode cX6_borrow 2 = .ok (.aload_n 0, 1) := by decide +kernel
theorem dX6_borrow_3 : decode cX6_borrow 3 = .ok (.iload_n 1, 1) := by decide +kernel
theorem dX6_borrow_4 : decode cX6_borrow 4 = .ok (.invokevirtual 83, 3) := by decide +kernel
theorem dX6_borrow_7 : decode cX6_borrow 7 = .ok (.iconst 0, 1) := by decide +kernel
theorem dX6_borrow_8 : decode cX6_borrow 8 = .ok (.istore 4, 2) := by decide +kernel
theorem dX6_borrow_10 : decode cX6_borrow 10 = .ok (.iload 4, 2) := by decide +kernel
theorem dX6_borrow_12 : decode cX6_borrow 12 = .ok (.aload_n 0, 1) := by decide +kernel
theorem dX6_borrow_13 : decode cX6_borrow 13 = .ok (.getfield 74, 3) := by decide +kernel
theorem dX6_borrow_16 : decode cX6_borrow 16 = .ok (.if_icmp .ge 71, 3) := by decide +kernel
theorem dX6_borrow_19 : decode cX6_borrow 19 = .ok (.iload_n 3, 1) := by decide +kernel
theorem dX6_borrow_20 : decode cX6_borrow 20 = .ok (.ifCond .le 67, 3) := by decide +kernel
theorem dX6_borrow_23 : decode cX6_borrow 23 = .ok (.iload_n 3, 1) := by decide +kernel
theorem dX6_borrow_24 : decode cX6_borrow 24 = .ok (.aload_n 0, 1) := by decide +kernel
theorem dX6_borrow_25 : decode cX6_borrow 25 = .ok (.aload_n 0, 1) := by decide +kernel
theorem dX6_borrow_26 : decode cX6_borrow 26 = .ok (.getfield 22, 3) := by decide +kernel
theorem dX6_borrow_29 : decode cX6_borrow 29 = .ok (.iload 4, 2) := by decide +kernel
theorem dX6_borrow_31 : decode cX6_borrow 31 = .ok (.iaload, 1) := by decide +kernel
theorem dX6_borrow_32 : decode cX6_borrow 32 = .ok (.invokevirtual 68, 3) := by decide +kernel
theorem dX6_borrow_35 : decode cX6_borrow 35 = .ok (.invokestatic 61, 3) := by decide +kernel
theorem dX6_borrow_38 : decode cX6_borrow 38 = .ok (.istore 5, 2) := by decide +kernel
theorem dX6_borrow_40 : decode cX6_borrow 40 = .ok (.aload_n 0, 1) := by decide +kernel
theorem dX6_borrow_41 : decode cX6_borrow 41 = .ok (.aload_n 0, 1) := by decide +kernel
theorem dX6_borrow_42 : decode cX6_borrow 42 = .ok (.getfield 22, 3) := by decide +kernel
theorem dX6_borrow_45 : decode cX6_borrow 45 = .ok (.iload 4, 2) := by decide +kernel
theorem dX6_borrow_47 : decode cX6_borrow 47 = .ok (.iaload, 1) := by decide +kernel
theorem dX6_borrow_48 : decode cX6_borrow 48 = .ok (.iload_n 1, 1) := by decide +kernel
theorem dX6_borrow_49 : decode cX6_borrow 49 = .ok (.iload 5, 2) := by decide +kernel
theorem dX6_borrow_51 : decode cX6_borrow 51 = .ok (.invokevirtual 86, 3) := by decide +kernel
theorem dX6_borrow_54 : decode cX6_borrow 54 = .ok (.aload_n 0, 1) := by decide +kernel
theorem dX6_borrow_55 : decode cX6_borrow 55 = .ok (.getfield 7, 3) := by decide +kernel
theorem dX6_borrow_58 : decode cX6_borrow 58 = .ok (.aload_n 0, 1) := by decide +kernel
theorem dX6_borrow_59 : decode cX6_borrow 59 = .ok (.getfield 22, 3) := by decide +kernel
theorem dX6_borrow_62 : decode cX6_borrow 62 = .ok (.iload 4, 2) := by decide +kernel
theorem dX6_borrow_64 : decode cX6_borrow 64 = .ok (.iaload, 1) := by decide +kernel
theorem dX6_borrow_65 : decode cX6_borrow 65 = .ok (.invokestatic 39, 3) := by decide +kernel
theorem dX6_borrow_68 : decode cX6_borrow 68 = .ok (.iconst 2, 1) := by decide +kernel
theorem dX6_borrow_69 : decode cX6_borrow 69 = .ok (.iadd, 1) := by decide +kernel
theorem dX6_borrow_70 : decode cX6_borrow 70 = .ok (.dup2, 1) := by decide +kernel
theorem dX6_borrow_71 : decode cX6_borrow 71 = .ok (.iaload, 1) := by decide +kernel
theorem dX6_borrow_72 : decode cX6_borrow 72 = .ok (.iload 5, 2) := by decide +kernel
theorem dX6_borrow_74 : decode cX6_borrow 74 = .ok (.isub, 1) := by decide +kernel
theorem dX6_borrow_75 : decode cX6_borrow 75 = .ok (.iastore, 1) := by decide +kernel
theorem dX6_borrow_76 : decode cX6_borrow 76 = .ok (.iload_n 3, 1) := by decide +kernel
theorem dX6_borrow_77 : decode cX6_borrow 77 = .ok (.iload 5, 2) := by decide +kernel
theorem dX6_borrow_79 : decode cX6_borrow 79 = .ok (.isub, 1) := by decide +kernel
theorem dX6_borrow_80 : decode cX6_borrow 80 = .ok (.istore_n 3, 1) := by decide +kernel
theorem dX6_borrow_81 : decode cX6_borrow 81 = .ok (.iinc 4 1, 3) := by decide +kernel
theorem dX6_borrow_84 : decode cX6_borrow 84 = .ok (.goto (-74), 3) := by decide +kernel
theorem dX6_borrow_87 : decode cX6_borrow 87 = .ok (.aload_n 0, 1) := by decide +kernel
theorem dX6_borrow_88 : decode cX6_borrow 88 = .ok (.iload_n 2, 1) := by decide +kernel
theorem dX6_borrow_89 : decode cX6_borrow 89 = .ok (.iload_n 3, 1) := by decide +kernel
theorem dX6_borrow_90 : decode cX6_borrow 90 = .ok (.isub, 1) := by decide +kernel
theorem dX6_borrow_91 : decode cX6_borrow 91 = .ok (.putfield 90, 3) := by decide +kernel
theorem dX6_borrow_94 : decode cX6_borrow 94 = .ok (.aload_n 0, 1) := by decide +kernel
theorem dX6_borrow_95 : decode cX6_borrow 95 = .ok (.iload_n 3, 1) := by decide +kernel
theorem dX6_borrow_96 : decode cX6_borrow 96 = .ok (.putfield 93, 3) := by decide +kernel
theorem dX6_borrow_99 : decode cX6_borrow 99 = .ok (.return_, 1) := by decide +kernel
theorem dX6_charge_0 : decode cX6_charge 0 = .ok (.iload_n 1, 1) := by decide +kernel
theorem dX6_charge_1 : decode cX6_charge 1 = .ok (.invokestatic 39, 3) := by decide +kernel
theorem dX6_charge_4 : decode cX6_charge 4 = .ok (.istore_n 3, 1) := by decide +kernel
theorem dX6_charge_5 : decode cX6_charge 5 = .ok (.aload_n 0, 1) := by decide +kernel
theorem dX6_charge_6 : decode cX6_charge 6 = .ok (.iload_n 2, 1) := by decide +kernel
theorem dX6_charge_7 : decode cX6_charge 7 = .ok (.aload_n 0, 1) := by decide +kernel
theorem dX6_charge_8 : decode cX6_charge 8 = .ok (.getfield 7, 3) := by decide +kernel
theorem dX6_charge_11 : decode cX6_charge 11 = .ok (.iload_n 3, 1) := by decide +kernel
theorem dX6_charge_12 : decode cX6_charge 12 = .ok (.iconst 2, 1) := by decide +kernel
theorem dX6_charge_13 : decode cX6_charge 13 = .ok (.iadd, 1) := by decide +kernel
theorem dX6_charge_14 : decode cX6_charge 14 = .ok (.iaload, 1) := by decide +kernel
theorem dX6_charge_15 : decode cX6_charge 15 = .ok (.invokestatic 61, 3) := by decide +kernel
theorem dX6_charge_18 : decode cX6_charge 18 = .ok (.putfield 96, 3) := by decide +kernel
theorem dX6_charge_21 : decode cX6_charge 21 = .ok (.aload_n 0, 1) := by decide +kernel
theorem dX6_charge_22 : decode cX6_charge 22 = .ok (.getfield 7, 3) := by decide +kernel
theorem dX6_charge_25 : decode cX6_charge 25 = .ok (.iload_n 3, 1) := by decide +kernel
theorem dX6_charge_26 : decode cX6_charge 26 = .ok (.iconst 2, 1) := by decide +kernel
theorem dX6_charge_27 : decode cX6_charge 27 = .ok (.iadd, 1) := by decide +kernel
theorem dX6_charge_28 : decode cX6_charge 28 = .ok (.dup2, 1) := by decide +kernel
theorem dX6_charge_29 : decode cX6_charge 29 = .ok (.iaload, 1) := by decide +kernel
theorem dX6_charge_30 : decode cX6_charge 30 = .ok (.aload_n 0, 1) := by decide +kernel
theorem dX6_charge_31 : decode cX6_charge 31 = .ok (.getfield 96, 3) := by decide +kernel
theorem dX6_charge_34 : decode cX6_charge 34 = .ok (.isub, 1) := by decide +kernel
theorem dX6_charge_35 : decode cX6_charge 35 = .ok (.iastore, 1) := by decide +kernel
theorem dX6_charge_36 : decode cX6_charge 36 = .ok (.aload_n 0, 1) := by decide +kernel
theorem dX6_charge_37 : decode cX6_charge 37 = .ok (.iload_n 1, 1) := by decide +kernel
theorem dX6_charge_38 : decode cX6_charge 38 = .ok (.iload_n 2, 1) := by decide +kernel
theorem dX6_charge_39 : decode cX6_charge 39 = .ok (.aload_n 0, 1) := by decide +kernel
theorem dX6_charge_40 : decode cX6_charge 40 = .ok (.getfield 96, 3) := by decide +kernel
theorem dX6_charge_43 : decode cX6_charge 43 = .ok (.isub, 1) := by decide +kernel
theorem dX6_charge_44 : decode cX6_charge 44 = .ok (.invokevirtual 99, 3) := by decide +kernel
theorem dX6_charge_47 : decode cX6_charge 47 = .ok (.aload_n 0, 1) := by decide +kernel
theorem dX6_charge_48 : decode cX6_charge 48 = .ok (.iload_n 1, 1) := by decide +kernel
theorem dX6_charge_49 : decode cX6_charge 49 = .ok (.iload_n 2, 1) := by decide +kernel
theorem dX6_charge_50 : decode cX6_charge 50 = .ok (.aload_n 0, 1) := by decide +kernel
theorem dX6_charge_51 : decode cX6_charge 51 = .ok (.getfield 96, 3) := by decide +kernel
theorem dX6_charge_54 : decode cX6_charge 54 = .ok (.isub, 1) := by decide +kernel
theorem dX6_charge_55 : decode cX6_charge 55 = .ok (.aload_n 0, 1) := by decide +kernel
theorem dX6_charge_56 : decode cX6_charge 56 = .ok (.getfield 80, 3) := by decide +kernel
theorem dX6_charge_59 : decode cX6_charge 59 = .ok (.isub, 1) := by decide +kernel
theorem dX6_charge_60 : decode cX6_charge 60 = .ok (.invokevirtual 102, 3) := by decide +kernel
theorem dX6_charge_63 : decode cX6_charge 63 = .ok (.aload_n 0, 1) := by decide +kernel
theorem dX6_charge_64 : decode cX6_charge 64 = .ok (.getfield 7, 3) := by decide +kernel
theorem dX6_charge_67 : decode cX6_charge 67 = .ok (.iload_n 3, 1) := by decide +kernel
theorem dX6_charge_68 : decode cX6_charge 68 = .ok (.iconst 3, 1) := by decide +kernel
theorem dX6_charge_69 : decode cX6_charge 69 = .ok (.iadd, 1) := by decide +kernel
theorem dX6_charge_70 : decode cX6_charge 70 = .ok (.dup2, 1) := by decide +kernel
theorem dX6_charge_71 : decode cX6_charge 71 = .ok (.iaload, 1) := by decide +kernel
theorem dX6_charge_72 : decode cX6_charge 72 = .ok (.aload_n 0, 1) := by decide +kernel
theorem dX6_charge_73 : decode cX6_charge 73 = .ok (.getfield 96, 3) := by decide +kernel
theorem dX6_charge_76 : decode cX6_charge 76 = .ok (.aload_n 0, 1) := by decide +kernel
theorem dX6_charge_77 : decode cX6_charge 77 = .ok (.getfield 80, 3) := by decide +kernel
theorem dX6_charge_80 : decode cX6_charge 80 = .ok (.iadd, 1) := by decide +kernel
theorem dX6_charge_81 : decode cX6_charge 81 = .ok (.aload_n 0, 1) := by decide +kernel
theorem dX6_charge_82 : decode cX6_charge 82 = .ok (.getfield 90, 3) := by decide +kernel
theorem dX6_charge_85 : decode cX6_charge 85 = .ok (.iadd, 1) := by decide +kernel
theorem dX6_charge_86 : decode cX6_charge 86 = .ok (.iadd, 1) := by decide +kernel
theorem dX6_charge_87 : decode cX6_charge 87 = .ok (.iastore, 1) := by decide +kernel
theorem dX6_charge_88 : decode cX6_charge 88 = .ok (.aload_n 0, 1) := by decide +kernel
theorem dX6_charge_89 : decode cX6_charge 89 = .ok (.getfield 7, 3) := by decide +kernel
theorem dX6_charge_92 : decode cX6_charge 92 = .ok (.iload_n 3, 1) := by decide +kernel
theorem dX6_charge_93 : decode cX6_charge 93 = .ok (.iconst 4, 1) := by decide +kernel
theorem dX6_charge_94 : decode cX6_charge 94 = .ok (.iadd, 1) := by decide +kernel
theorem dX6_charge_95 : decode cX6_charge 95 = .ok (.dup2, 1) := by decide +kernel
theorem dX6_charge_96 : decode cX6_charge 96 = .ok (.iaload, 1) := by decide +kernel
theorem dX6_charge_97 : decode cX6_charge 97 = .ok (.aload_n 0, 1) := by decide +kernel
theorem dX6_charge_98 : decode cX6_charge 98 = .ok (.getfield 93, 3) := by decide +kernel
theorem dX6_charge_101 : decode cX6_charge 101 = .ok (.iadd, 1) := by decide +kernel
theorem dX6_charge_102 : decode cX6_charge 102 = .ok (.iastore, 1) := by decide +kernel
theorem dX6_charge_103 : decode cX6_charge 103 = .ok (.return_, 1) := by decide +kernel
theorem dX6_doNow_0 : decode cX6_doNow 0 = .ok (.iload_n 1, 1) := by decide +kernel
theorem dX6_doNow_1 : decode cX6_doNow 1 = .ok (.invokestatic 39, 3) := by decide +kernel
theorem dX6_doNow_4 : decode cX6_doNow 4 = .ok (.istore_n 3, 1) := by decide +kernel
theorem dX6_doNow_5 : decode cX6_doNow 5 = .ok (.aload_n 0, 1) := by decide +kernel
theorem dX6_doNow_6 : decode cX6_doNow 6 = .ok (.getfield 7, 3) := by decide +kernel
theorem dX6_doNow_9 : decode cX6_doNow 9 = .ok (.iload_n 3, 1) := by decide +kernel
theorem dX6_doNow_10 : decode cX6_doNow 10 = .ok (.bipush 6, 2) := by decide +kernel
theorem dX6_doNow_12 : decode cX6_doNow 12 = .ok (.iadd, 1) := by decide +kernel
theorem dX6_doNow_13 : decode cX6_doNow 13 = .ok (.iaload, 1) := by decide +kernel
theorem dX6_doNow_14 : decode cX6_doNow 14 = .ok (.istore 4, 2) := by decide +kernel
theorem dX6_doNow_16 : decode cX6_doNow 16 = .ok (.iload_n 2, 1) := by decide +kernel
theorem dX6_doNow_17 : decode cX6_doNow 17 = .ok (.aload_n 0, 1) := by decide +kernel
theorem dX6_doNow_18 : decode cX6_doNow 18 = .ok (.getfield 7, 3) := by decide +kernel
theorem dX6_doNow_21 : decode cX6_doNow 21 = .ok (.iload_n 3, 1) := by decide +kernel
theorem dX6_doNow_22 : decode cX6_doNow 22 = .ok (.bipush 10, 2) := by decide +kernel
theorem dX6_doNow_24 : decode cX6_doNow 24 = .ok (.iadd, 1) := by decide +kernel
theorem dX6_doNow_25 : decode cX6_doNow 25 = .ok (.iload 4, 2) := by decide +kernel
theorem dX6_doNow_27 : decode cX6_doNow 27 = .ok (.iadd, 1) := by decide +kernel
theorem dX6_doNow_28 : decode cX6_doNow 28 = .ok (.iaload, 1) := by decide +kernel
theorem dX6_doNow_29 : decode cX6_doNow 29 = .ok (.isub, 1) := by decide +kernel
theorem dX6_doNow_30 : decode cX6_doNow 30 = .ok (.istore 5, 2) := by decide +kernel
theorem dX6_doNow_32 : decode cX6_doNow 32 = .ok (.aload_n 0, 1) := by decide +kernel
theorem dX6_doNow_33 : decode cX6_doNow 33 = .ok (.iconst 0, 1) := by decide +kernel
theorem dX6_doNow_34 : decode cX6_doNow 34 = .ok (.putfield 96, 3) := by decide +kernel
theorem dX6_doNow_37 : decode cX6_doNow 37 = .ok (.aload_n 0, 1) := by decide +kernel
theorem dX6_doNow_38 : decode cX6_doNow 38 = .ok (.iconst 0, 1) := by decide +kernel
theorem dX6_doNow_39 : decode cX6_doNow 39 = .ok (.putfield 80, 3) := by decide +kernel
theorem dX6_doNow_42 : decode cX6_doNow 42 = .ok (.aload_n 0, 1) := by decide +kernel
theorem dX6_doNow_43 : decode cX6_doNow 43 = .ok (.iconst 0, 1) := by decide +kernel
theorem dX6_doNow_44 : decode cX6_doNow 44 = .ok (.putfield 90, 3) := by decide +kernel
theorem dX6_doNow_47 : decode cX6_doNow 47 = .ok (.aload_n 0, 1) := by decide +kernel
theorem dX6_doNow_48 : decode cX6_doNow 48 = .ok (.iconst 0, 1) := by decide +kernel
theorem dX6_doNow_49 : decode cX6_doNow 49 = .ok (.putfield 93, 3) := by decide +kernel
theorem dX6_doNow_52 : decode cX6_doNow 52 = .ok (.aload_n 0, 1) := by decide +kernel
theorem dX6_doNow_53 : decode cX6_doNow 53 = .ok (.getfield 7, 3) := by decide +kernel
theorem dX6_doNow_56 : decode cX6_doNow 56 = .ok (.iload_n 3, 1) := by decide +kernel
theorem dX6_doNow_57 : decode cX6_doNow 57 = .ok (.bipush 18, 2) := by decide +kernel
theorem dX6_doNow_59 : decode cX6_doNow 59 = .ok (.iadd, 1) := by decide +kernel
theorem dX6_doNow_60 : decode cX6_doNow 60 = .ok (.iload 4, 2) := by decide +kernel
theorem dX6_doNow_62 : decode cX6_doNow 62 = .ok (.iadd, 1) := by decide +kernel
theorem dX6_doNow_63 : decode cX6_doNow 63 = .ok (.iload_n 2, 1) := by decide +kernel
theorem dX6_doNow_64 : decode cX6_doNow 64 = .ok (.iastore, 1) := by decide +kernel
theorem dX6_doNow_65 : decode cX6_doNow 65 = .ok (.iload 5, 2) := by decide +kernel
theorem dX6_doNow_67 : decode cX6_doNow 67 = .ok (.ifCond .le 13, 3) := by decide +kernel
theorem dX6_doNow_70 : decode cX6_doNow 70 = .ok (.aload_n 0, 1) := by decide +kernel
theorem dX6_doNow_71 : decode cX6_doNow 71 = .ok (.iload_n 1, 1) := by decide +kernel
theorem dX6_doNow_72 : decode cX6_doNow 72 = .ok (.iload 5, 2) := by decide +kernel
theorem dX6_doNow_74 : decode cX6_doNow 74 = .ok (.invokevirtual 105, 3) := by decide +kernel
theorem dX6_doNow_77 : decode cX6_doNow 77 = .ok (.goto 37, 3) := by decide +kernel
theorem dX6_doNow_80 : decode cX6_doNow 80 = .ok (.aload_n 0, 1) := by decide +kernel
theorem dX6_doNow_81 : decode cX6_doNow 81 = .ok (.getfield 7, 3) := by decide +kernel
theorem dX6_doNow_84 : decode cX6_doNow 84 = .ok (.iload_n 3, 1) := by decide +kernel
theorem dX6_doNow_85 : decode cX6_doNow 85 = .ok (.iconst 2, 1) := by decide +kernel
theorem dX6_doNow_86 : decode cX6_doNow 86 = .ok (.iadd, 1) := by decide +kernel
theorem dX6_doNow_87 : decode cX6_doNow 87 = .ok (.dup2, 1) := by decide +kernel
theorem dX6_doNow_88 : decode cX6_doNow 88 = .ok (.iaload, 1) := by decide +kernel
theorem dX6_doNow_89 : decode cX6_doNow 89 = .ok (.iload 5, 2) := by decide +kernel
theorem dX6_doNow_91 : decode cX6_doNow 91 = .ok (.isub, 1) := by decide +kernel
theorem dX6_doNow_92 : decode cX6_doNow 92 = .ok (.iastore, 1) := by decide +kernel
theorem dX6_doNow_93 : decode cX6_doNow 93 = .ok (.aload_n 0, 1) := by decide +kernel
theorem dX6_doNow_94 : decode cX6_doNow 94 = .ok (.getfield 7, 3) := by decide +kernel
theorem dX6_doNow_97 : decode cX6_doNow 97 = .ok (.iload_n 3, 1) := by decide +kernel
theorem dX6_doNow_98 : decode cX6_doNow 98 = .ok (.iconst 3, 1) := by decide +kernel
theorem dX6_doNow_99 : decode cX6_doNow 99 = .ok (.iadd, 1) := by decide +kernel
theorem dX6_doNow_100 : decode cX6_doNow 100 = .ok (.dup2, 1) := by decide +kernel
theorem dX6_doNow_101 : decode cX6_doNow 101 = .ok (.iaload, 1) := by decide +kernel
theorem dX6_doNow_102 : decode cX6_doNow 102 = .ok (.iload 5, 2) := by decide +kernel
theorem dX6_doNow_104 : decode cX6_doNow 104 = .ok (.iadd, 1) := by decide +kernel
theorem dX6_doNow_105 : decode cX6_doNow 105 = .ok (.iastore, 1) := by decide +kernel
theorem dX6_doNow_106 : decode cX6_doNow 106 = .ok (.aload_n 0, 1) := by decide +kernel
theorem dX6_doNow_107 : decode cX6_doNow 107 = .ok (.iload_n 1, 1) := by decide +kernel
theorem dX6_doNow_108 : decode cX6_doNow 108 = .ok (.iload 5, 2) := by decide +kernel
theorem dX6_doNow_110 : decode cX6_doNow 110 = .ok (.ineg, 1) := by decide +kernel
theorem dX6_doNow_111 : decode cX6_doNow 111 = .ok (.invokevirtual 108, 3) := by decide +kernel
theorem dX6_doNow_114 : decode cX6_doNow 114 = .ok (.aload_n 0, 1) := by decide +kernel
theorem dX6_doNow_115 : decode cX6_doNow 115 = .ok (.getfield 7, 3) := by decide +kernel
theorem dX6_doNow_118 : decode cX6_doNow 118 = .ok (.iload_n 3, 1) := by decide +kernel
theorem dX6_doNow_119 : decode cX6_doNow 119 = .ok (.bipush 26, 2) := by decide +kernel
theorem dX6_doNow_121 : decode cX6_doNow 121 = .ok (.iadd, 1) := by decide +kernel
theorem dX6_doNow_122 : decode cX6_doNow 122 = .ok (.iconst 4, 1) := by decide +kernel
theorem dX6_doNow_123 : decode cX6_doNow 123 = .ok (.iload 4, 2) := by decide +kernel
theorem dX6_doNow_125 : decode cX6_doNow 125 = .ok (.imul, 1) := by decide +kernel
theorem dX6_doNow_126 : decode cX6_doNow 126 = .ok (.iadd, 1) := by decide +kernel
theorem dX6_doNow_127 : decode cX6_doNow 127 = .ok (.aload_n 0, 1) := by decide +kernel
theorem dX6_doNow_128 : decode cX6_doNow 128 = .ok (.getfield 96, 3) := by decide +kernel
theorem dX6_doNow_131 : decode cX6_doNow 131 = .ok (.iastore, 1) := by decide +kernel
theorem dX6_doNow_132 : decode cX6_doNow 132 = .ok (.aload_n 0, 1) := by decide +kernel
theorem dX6_doNow_133 : decode cX6_doNow 133 = .ok (.getfield 7, 3) := by decide +kernel
theorem dX6_doNow_136 : decode cX6_doNow 136 = .ok (.iload_n 3, 1) := by decide +kernel
theorem dX6_doNow_137 : decode cX6_doNow 137 = .ok (.bipush 26, 2) := by decide +kernel
theorem dX6_doNow_139 : decode cX6_doNow 139 = .ok (.iadd, 1) := by decide +kernel
theorem dX6_doNow_140 : decode cX6_doNow 140 = .ok (.iconst 4, 1) := by decide +kernel
theorem dX6_doNow_141 : decode cX6_doNow 141 = .ok (.iload 4, 2) := by decide +kernel
theorem dX6_doNow_143 : decode cX6_doNow 143 = .ok (.imul, 1) := by decide +kernel
theorem dX6_doNow_144 : decode cX6_doNow 144 = .ok (.iadd, 1) := by decide +kernel
theorem dX6_doNow_145 : decode cX6_doNow 145 = .ok (.iconst 1, 1) := by decide +kernel
theorem dX6_doNow_146 : decode cX6_doNow 146 = .ok (.iadd, 1) := by decide +kernel
theorem dX6_doNow_147 : decode cX6_doNow 147 = .ok (.aload_n 0, 1) := by decide +kernel
theorem dX6_doNow_148 : decode cX6_doNow 148 = .ok (.getfield 80, 3) := by decide +kernel
theorem dX6_doNow_151 : decode cX6_doNow 151 = .ok (.iastore, 1) := by decide +kernel
theorem dX6_doNow_152 : decode cX6_doNow 152 = .ok (.aload_n 0, 1) := by decide +kernel
theorem dX6_doNow_153 : decode cX6_doNow 153 = .ok (.getfield 7, 3) := by decide +kernel
theorem dX6_doNow_156 : decode cX6_doNow 156 = .ok (.iload_n 3, 1) := by decide +kernel
theorem dX6_doNow_157 : decode cX6_doNow 157 = .ok (.bipush 26, 2) := by decide +kernel
theorem dX6_doNow_159 : decode cX6_doNow 159 = .ok (.iadd, 1) := by decide +kernel
theorem dX6_doNow_160 : decode cX6_doNow 160 = .ok (.iconst 4, 1) := by decide +kernel
theorem dX6_doNow_161 : decode cX6_doNow 161 = .ok (.iload 4, 2) := by decide +kernel
theorem dX6_doNow_163 : decode cX6_doNow 163 = .ok (.imul, 1) := by decide +kernel
theorem dX6_doNow_164 : decode cX6_doNow 164 = .ok (.iadd, 1) := by decide +kernel
theorem dX6_doNow_165 : decode cX6_doNow 165 = .ok (.iconst 2, 1) := by decide +kernel
theorem dX6_doNow_166 : decode cX6_doNow 166 = .ok (.iadd, 1) := by decide +kernel
theorem dX6_doNow_167 : decode cX6_doNow 167 = .ok (.aload_n 0, 1) := by decide +kernel
theorem dX6_doNow_168 : decode cX6_doNow 168 = .ok (.getfield 90, 3) := by decide +kernel
theorem dX6_doNow_171 : decode cX6_doNow 171 = .ok (.iastore, 1) := by decide +kernel
theorem dX6_doNow_172 : decode cX6_doNow 172 = .ok (.aload_n 0, 1) := by decide +kernel
theorem dX6_doNow_173 : decode cX6_doNow 173 = .ok (.getfield 7, 3) := by decide +kernel
theorem dX6_doNow_176 : decode cX6_doNow 176 = .ok (.iload_n 3, 1) := by decide +kernel
theorem dX6_doNow_177 : decode cX6_doNow 177 = .ok (.bipush 26, 2) := by decide +kernel
theorem dX6_doNow_179 : decode cX6_doNow 179 = .ok (.iadd, 1) := by decide +kernel
theorem dX6_doNow_180 : decode cX6_doNow 180 = .ok (.iconst 4, 1) := by decide +kernel
theorem dX6_doNow_181 : decode cX6_doNow 181 = .ok (.iload 4, 2) := by decide +kernel
theorem dX6_doNow_183 : decode cX6_doNow 183 = .ok (.imul, 1) := by decide +kernel
theorem dX6_doNow_184 : decode cX6_doNow 184 = .ok (.iadd, 1) := by decide +kernel
theorem dX6_doNow_185 : decode cX6_doNow 185 = .ok (.iconst 3, 1) := by decide +kernel
theorem dX6_doNow_186 : decode cX6_doNow 186 = .ok (.iadd, 1) := by decide +kernel
theorem dX6_doNow_187 : decode cX6_doNow 187 = .ok (.aload_n 0, 1) := by decide +kernel
theorem dX6_doNow_188 : decode cX6_doNow 188 = .ok (.getfield 93, 3) := by decide +kernel
theorem dX6_doNow_191 : decode cX6_doNow 191 = .ok (.iastore, 1) := by decide +kernel
theorem dX6_doNow_192 : decode cX6_doNow 192 = .ok (.aload_n 0, 1) := by decide +kernel
theorem dX6_doNow_193 : decode cX6_doNow 193 = .ok (.getfield 7, 3) := by decide +kernel
theorem dX6_doNow_196 : decode cX6_doNow 196 = .ok (.iload_n 3, 1) := by decide +kernel
theorem dX6_doNow_197 : decode cX6_doNow 197 = .ok (.bipush 6, 2) := by decide +kernel
theorem dX6_doNow_199 : decode cX6_doNow 199 = .ok (.iadd, 1) := by decide +kernel
theorem dX6_doNow_200 : decode cX6_doNow 200 = .ok (.dup2, 1) := by decide +kernel
theorem dX6_doNow_201 : decode cX6_doNow 201 = .ok (.iaload, 1) := by decide +kernel
theorem dX6_doNow_202 : decode cX6_doNow 202 = .ok (.iconst 1, 1) := by decide +kernel
theorem dX6_doNow_203 : decode cX6_doNow 203 = .ok (.iadd, 1) := by decide +kernel
theorem dX6_doNow_204 : decode cX6_doNow 204 = .ok (.iastore, 1) := by decide +kernel
theorem dX6_doNow_205 : decode cX6_doNow 205 = .ok (.aload_n 0, 1) := by decide +kernel
theorem dX6_doNow_206 : decode cX6_doNow 206 = .ok (.iload_n 1, 1) := by decide +kernel
theorem dX6_doNow_207 : decode cX6_doNow 207 = .ok (.invokevirtual 47, 3) := by decide +kernel
theorem dX6_doNow_210 : decode cX6_doNow 210 = .ok (.ifCond .eq 26, 3) := by decide +kernel
theorem dX6_doNow_213 : decode cX6_doNow 213 = .ok (.aload_n 0, 1) := by decide +kernel
theorem dX6_doNow_214 : decode cX6_doNow 214 = .ok (.iload_n 1, 1) := by decide +kernel
theorem dX6_doNow_215 : decode cX6_doNow 215 = .ok (.aload_n 0, 1) := by decide +kernel
theorem dX6_doNow_216 : decode cX6_doNow 216 = .ok (.getfield 7, 3) := by decide +kernel
theorem dX6_doNow_219 : decode cX6_doNow 219 = .ok (.iload_n 3, 1) := by decide +kernel
theorem dX6_doNow_220 : decode cX6_doNow 220 = .ok (.iconst 2, 1) := by decide +kernel
theorem dX6_doNow_221 : decode cX6_doNow 221 = .ok (.iadd, 1) := by decide +kernel
theorem dX6_doNow_222 : decode cX6_doNow 222 = .ok (.iaload, 1) := by decide +kernel
theorem dX6_doNow_223 : decode cX6_doNow 223 = .ok (.aload_n 0, 1) := by decide +kernel
theorem dX6_doNow_224 : decode cX6_doNow 224 = .ok (.getfield 7, 3) := by decide +kernel
theorem dX6_doNow_227 : decode cX6_doNow 227 = .ok (.iconst 5, 1) := by decide +kernel
theorem dX6_doNow_228 : decode cX6_doNow 228 = .ok (.iaload, 1) := by decide +kernel
theorem dX6_doNow_229 : decode cX6_doNow 229 = .ok (.imul, 1) := by decide +kernel
theorem dX6_doNow_230 : decode cX6_doNow 230 = .ok (.bipush 100, 2) := by decide +kernel
theorem dX6_doNow_232 : decode cX6_doNow 232 = .ok (.idiv, 1) := by decide +kernel
theorem dX6_doNow_233 : decode cX6_doNow 233 = .ok (.invokevirtual 108, 3) := by decide +kernel
theorem dX6_doNow_236 : decode cX6_doNow 236 = .ok (.return_, 1) := by decide +kernel
theorem dX6_openNow_0 : decode cX6_openNow 0 = .ok (.aload_n 0, 1) := by decide +kernel
theorem dX6_openNow_1 : decode cX6_openNow 1 = .ok (.getfield 7, 3) := by decide +kernel
theorem dX6_openNow_4 : decode cX6_openNow 4 = .ok (.iconst 0, 1) := by decide +kernel
theorem dX6_openNow_5 : decode cX6_openNow 5 = .ok (.iaload, 1) := by decide +kernel
theorem dX6_openNow_6 : decode cX6_openNow 6 = .ok (.invokestatic 39, 3) := by decide +kernel
theorem dX6_openNow_9 : decode cX6_openNow 9 = .ok (.istore_n 3, 1) := by decide +kernel
theorem dX6_openNow_10 : decode cX6_openNow 10 = .ok (.iconst 0, 1) := by decide +kernel
theorem dX6_openNow_11 : decode cX6_openNow 11 = .ok (.istore 4, 2) := by decide +kernel
theorem dX6_openNow_13 : decode cX6_openNow 13 = .ok (.iload 4, 2) := by decide +kernel
theorem dX6_openNow_15 : decode cX6_openNow 15 = .ok (.bipush 58, 2) := by decide +kernel
theorem dX6_openNow_17 : decode cX6_openNow 17 = .ok (.if_icmp .ge 19, 3) := by decide +kernel
theorem dX6_openNow_20 : decode cX6_openNow 20 = .ok (.aload_n 0, 1) := by decide +kernel
theorem dX6_openNow_21 : decode cX6_openNow 21 = .ok (.getfield 7, 3) := by decide +kernel
theorem dX6_openNow_24 : decode cX6_openNow 24 = .ok (.iload_n 3, 1) := by decide +kernel
theorem dX6_openNow_25 : decode cX6_openNow 25 = .ok (.iload 4, 2) := by decide +kernel
theorem dX6_openNow_27 : decode cX6_openNow 27 = .ok (.iadd, 1) := by decide +kernel
theorem dX6_openNow_28 : decode cX6_openNow 28 = .ok (.iconst 0, 1) := by decide +kernel
theorem dX6_openNow_29 : decode cX6_openNow 29 = .ok (.iastore, 1) := by decide +kernel
theorem dX6_openNow_30 : decode cX6_openNow 30 = .ok (.iinc 4 1, 3) := by decide +kernel
theorem dX6_openNow_33 : decode cX6_openNow 33 = .ok (.goto (-20), 3) := by decide +kernel
theorem dX6_openNow_36 : decode cX6_openNow 36 = .ok (.aload_n 0, 1) := by decide +kernel
theorem dX6_openNow_37 : decode cX6_openNow 37 = .ok (.getfield 7, 3) := by decide +kernel
theorem dX6_openNow_40 : decode cX6_openNow 40 = .ok (.iload_n 3, 1) := by decide +kernel
theorem dX6_openNow_41 : decode cX6_openNow 41 = .ok (.iload_n 1, 1) := by decide +kernel
theorem dX6_openNow_42 : decode cX6_openNow 42 = .ok (.iastore, 1) := by decide +kernel
theorem dX6_openNow_43 : decode cX6_openNow 43 = .ok (.aload_n 0, 1) := by decide +kernel
theorem dX6_openNow_44 : decode cX6_openNow 44 = .ok (.getfield 7, 3) := by decide +kernel
theorem dX6_openNow_47 : decode cX6_openNow 47 = .ok (.iload_n 3, 1) := by decide +kernel
theorem dX6_openNow_48 : decode cX6_openNow 48 = .ok (.iconst 1, 1) := by decide +kernel
theorem dX6_openNow_49 : decode cX6_openNow 49 = .ok (.iadd, 1) := by decide +kernel
theorem dX6_openNow_50 : decode cX6_openNow 50 = .ok (.iload_n 2, 1) := by decide +kernel
theorem dX6_openNow_51 : decode cX6_openNow 51 = .ok (.iastore, 1) := by decide +kernel
theorem dX6_openNow_52 : decode cX6_openNow 52 = .ok (.aload_n 0, 1) := by decide +kernel
theorem dX6_openNow_53 : decode cX6_openNow 53 = .ok (.getfield 7, 3) := by decide +kernel
theorem dX6_openNow_56 : decode cX6_openNow 56 = .ok (.iload_n 3, 1) := by decide +kernel
theorem dX6_openNow_57 : decode cX6_openNow 57 = .ok (.iconst 2, 1) := by decide +kernel
theorem dX6_openNow_58 : decode cX6_openNow 58 = .ok (.iadd, 1) := by decide +kernel
theorem dX6_openNow_59 : decode cX6_openNow 59 = .ok (.iload_n 2, 1) := by decide +kernel
theorem dX6_openNow_60 : decode cX6_openNow 60 = .ok (.iastore, 1) := by decide +kernel
theorem dX6_openNow_61 : decode cX6_openNow 61 = .ok (.aload_n 0, 1) := by decide +kernel
theorem dX6_openNow_62 : decode cX6_openNow 62 = .ok (.getfield 7, 3) := by decide +kernel
theorem dX6_openNow_65 : decode cX6_openNow 65 = .ok (.iload_n 3, 1) := by decide +kernel
theorem dX6_openNow_66 : decode cX6_openNow 66 = .ok (.bipush 7, 2) := by decide +kernel
theorem dX6_openNow_68 : decode cX6_openNow 68 = .ok (.iadd, 1) := by decide +kernel
theorem dX6_openNow_69 : decode cX6_openNow 69 = .ok (.iconst 1, 1) := by decide +kernel
theorem dX6_openNow_70 : decode cX6_openNow 70 = .ok (.iastore, 1) := by decide +kernel
theorem dX6_openNow_71 : decode cX6_openNow 71 = .ok (.aload_n 0, 1) := by decide +kernel
theorem dX6_openNow_72 : decode cX6_openNow 72 = .ok (.getfield 7, 3) := by decide +kernel
theorem dX6_openNow_75 : decode cX6_openNow 75 = .ok (.iconst 0, 1) := by decide +kernel
theorem dX6_openNow_76 : decode cX6_openNow 76 = .ok (.dup2, 1) := by decide +kernel
theorem dX6_openNow_77 : decode cX6_openNow 77 = .ok (.iaload, 1) := by decide +kernel
theorem dX6_openNow_78 : decode cX6_openNow 78 = .ok (.iconst 1, 1) := by decide +kernel
theorem dX6_openNow_79 : decode cX6_openNow 79 = .ok (.iadd, 1) := by decide +kernel
theorem dX6_openNow_80 : decode cX6_openNow 80 = .ok (.iastore, 1) := by decide +kernel
theorem dX6_openNow_81 : decode cX6_openNow 81 = .ok (.return_, 1) := by decide +kernel
theorem dX6_isRank_0 : decode cX6_isRank 0 = .ok (.iload_n 0, 1) := by decide +kernel
theorem dX6_isRank_1 : decode cX6_isRank 1 = .ok (.iconst 1, 1) := by decide +kernel
theorem dX6_isRank_2 : decode cX6_isRank 2 = .ok (.bipush 9, 2) := by decide +kernel
theorem dX6_isRank_4 : decode cX6_isRank 4 = .ok (.invokestatic 35, 3) := by decide +kernel
theorem dX6_isRank_7 : decode cX6_isRank 7 = .ok (.ireturn, 1) := by decide +kernel
theorem dX6_open_0 : decode cX6_open 0 = .ok (.aload_n 0, 1) := by decide +kernel
theorem dX6_open_1 : decode cX6_open 1 = .ok (.iconst 0, 1) := by decide +kernel
theorem dX6_open_2 : decode cX6_open 2 = .ok (.putfield 28, 3) := by decide +kernel
theorem dX6_open_5 : decode cX6_open 5 = .ok (.iload_n 1, 1) := by decide +kernel
theorem dX6_open_6 : decode cX6_open 6 = .ok (.invokestatic 111, 3) := by decide +kernel
theorem dX6_open_9 : decode cX6_open 9 = .ok (.ifCond .eq 13, 3) := by decide +kernel
theorem dX6_open_12 : decode cX6_open 12 = .ok (.iload_n 2, 1) := by decide +kernel
theorem dX6_open_13 : decode cX6_open 13 = .ok (.iconst 0, 1) := by decide +kernel
theorem dX6_open_14 : decode cX6_open 14 = .ok (.bipush 99, 2) := by decide +kernel
theorem dX6_open_16 : decode cX6_open 16 = .ok (.invokestatic 35, 3) := by decide +kernel
theorem dX6_open_19 : decode cX6_open 19 = .ok (.ifCond .ne 9, 3) := by decide +kernel
theorem dX6_open_22 : decode cX6_open 22 = .ok (.aload_n 0, 1) := by decide +kernel
theorem dX6_open_23 : decode cX6_open 23 = .ok (.iconst 1, 1) := by decide +kernel
theorem dX6_open_24 : decode cX6_open 24 = .ok (.invokevirtual 114, 3) := by decide +kernel
theorem dX6_open_27 : decode cX6_open 27 = .ok (.ireturn, 1) := by decide +kernel
theorem dX6_open_28 : decode cX6_open 28 = .ok (.aload_n 0, 1) := by decide +kernel
theorem dX6_open_29 : decode cX6_open 29 = .ok (.getfield 7, 3) := by decide +kernel
theorem dX6_open_32 : decode cX6_open 32 = .ok (.iconst 0, 1) := by decide +kernel
theorem dX6_open_33 : decode cX6_open 33 = .ok (.iaload, 1) := by decide +kernel
theorem dX6_open_34 : decode cX6_open 34 = .ok (.bipush 6, 2) := by decide +kernel
theorem dX6_open_36 : decode cX6_open 36 = .ok (.if_icmp .ne 9, 3) := by decide +kernel
theorem dX6_open_39 : decode cX6_open 39 = .ok (.aload_n 0, 1) := by decide +kernel
theorem dX6_open_40 : decode cX6_open 40 = .ok (.iconst 2, 1) := by decide +kernel
theorem dX6_open_41 : decode cX6_open 41 = .ok (.invokevirtual 114, 3) := by decide +kernel
theorem dX6_open_44 : decode cX6_open 44 = .ok (.ireturn, 1) := by decide +kernel
theorem dX6_open_45 : decode cX6_open 45 = .ok (.aload_n 0, 1) := by decide +kernel
theorem dX6_open_46 : decode cX6_open 46 = .ok (.invokevirtual 117, 3) := by decide +kernel
theorem dX6_open_49 : decode cX6_open 49 = .ok (.aload_n 0, 1) := by decide +kernel
theorem dX6_open_50 : decode cX6_open 50 = .ok (.iload_n 1, 1) := by decide +kernel
theorem dX6_open_51 : decode cX6_open 51 = .ok (.iload_n 2, 1) := by decide +kernel
theorem dX6_open_52 : decode cX6_open 52 = .ok (.invokevirtual 120, 3) := by decide +kernel
theorem dX6_open_55 : decode cX6_open 55 = .ok (.aload_n 0, 1) := by decide +kernel
theorem dX6_open_56 : decode cX6_open 56 = .ok (.getfield 7, 3) := by decide +kernel
theorem dX6_open_59 : decode cX6_open 59 = .ok (.iconst 0, 1) := by decide +kernel
theorem dX6_open_60 : decode cX6_open 60 = .ok (.iaload, 1) := by decide +kernel
theorem dX6_open_61 : decode cX6_open 61 = .ok (.iconst 1, 1) := by decide +kernel
theorem dX6_open_62 : decode cX6_open 62 = .ok (.isub, 1) := by decide +kernel
theorem dX6_open_63 : decode cX6_open 63 = .ok (.ireturn, 1) := by decide +kernel
theorem dX6_planNow_0 : decode cX6_planNow 0 = .ok (.iload_n 1, 1) := by decide +kernel
theorem dX6_planNow_1 : decode cX6_planNow 1 = .ok (.invokestatic 39, 3) := by decide +kernel
theorem dX6_planNow_4 : decode cX6_planNow 4 = .ok (.istore_n 3, 1) := by decide +kernel
theorem dX6_planNow_5 : decode cX6_planNow 5 = .ok (.aload_n 0, 1) := by decide +kernel
theorem dX6_planNow_6 : decode cX6_planNow 6 = .ok (.getfield 7, 3) := by decide +kernel
theorem dX6_planNow_9 : decode cX6_planNow 9 = .ok (.iload_n 3, 1) := by decide +kernel
theorem dX6_planNow_10 : decode cX6_planNow 10 = .ok (.bipush 10, 2) := by decide +kernel
theorem dX6_planNow_12 : decode cX6_planNow 12 = .ok (.iadd, 1) := by decide +kernel
theorem dX6_planNow_13 : decode cX6_planNow 13 = .ok (.aload_n 0, 1) := by decide +kernel
theorem dX6_planNow_14 : decode cX6_planNow 14 = .ok (.getfield 7, 3) := by decide +kernel
theorem dX6_planNow_17 : decode cX6_planNow 17 = .ok (.iload_n 3, 1) := by decide +kernel
theorem dX6_planNow_18 : decode cX6_planNow 18 = .ok (.iconst 5, 1) := by decide +kernel
theorem dX6_planNow_19 : decode cX6_planNow 19 = .ok (.iadd, 1) := by decide +kernel
theorem dX6_planNow_20 : decode cX6_planNow 20 = .ok (.iaload, 1) := by decide +kernel
theorem dX6_planNow_21 : decode cX6_planNow 21 = .ok (.iadd, 1) := by decide +kernel
theorem dX6_planNow_22 : decode cX6_planNow 22 = .ok (.iload_n 2, 1) := by decide +kernel
theorem dX6_planNow_23 : decode cX6_planNow 23 = .ok (.iastore, 1) := by decide +kernel
theorem dX6_planNow_24 : decode cX6_planNow 24 = .ok (.aload_n 0, 1) := by decide +kernel
theorem dX6_planNow_25 : decode cX6_planNow 25 = .ok (.getfield 7, 3) := by decide +kernel
theorem dX6_planNow_28 : decode cX6_planNow 28 = .ok (.iload_n 3, 1) := by decide +kernel
theorem dX6_planNow_29 : decode cX6_planNow 29 = .ok (.bipush 18, 2) := by decide +kernel
theorem dX6_planNow_31 : decode cX6_planNow 31 = .ok (.iadd, 1) := by decide +kernel
theorem dX6_planNow_32 : decode cX6_planNow 32 = .ok (.aload_n 0, 1) := by decide +kernel
theorem dX6_planNow_33 : decode cX6_planNow 33 = .ok (.getfield 7, 3) := by decide +kernel
theorem dX6_planNow_36 : decode cX6_planNow 36 = .ok (.iload_n 3, 1) := by decide +kernel
theorem dX6_planNow_37 : decode cX6_planNow 37 = .ok (.iconst 5, 1) := by decide +kernel
theorem dX6_planNow_38 : decode cX6_planNow 38 = .ok (.iadd, 1) := by decide +kernel
theorem dX6_planNow_39 : decode cX6_planNow 39 = .ok (.iaload, 1) := by decide +kernel
theorem dX6_planNow_40 : decode cX6_planNow 40 = .ok (.iadd, 1) := by decide +kernel
theorem dX6_planNow_41 : decode cX6_planNow 41 = .ok (.iconst (-1), 1) := by decide +kernel
theorem dX6_planNow_42 : decode cX6_planNow 42 = .ok (.iastore, 1) := by decide +kernel
theorem dX6_planNow_43 : decode cX6_planNow 43 = .ok (.aload_n 0, 1) := by decide +kernel
theorem dX6_planNow_44 : decode cX6_planNow 44 = .ok (.getfield 7, 3) := by decide +kernel
theorem dX6_planNow_47 : decode cX6_planNow 47 = .ok (.iload_n 3, 1) := by decide +kernel
theorem dX6_planNow_48 : decode cX6_planNow 48 = .ok (.iconst 5, 1) := by decide +kernel
theorem dX6_planNow_49 : decode cX6_planNow 49 = .ok (.iadd, 1) := by decide +kernel
theorem dX6_planNow_50 : decode cX6_planNow 50 = .ok (.dup2, 1) := by decide +kernel
theorem dX6_planNow_51 : decode cX6_planNow 51 = .ok (.iaload, 1) := by decide +kernel
theorem dX6_planNow_52 : decode cX6_planNow 52 = .ok (.iconst 1, 1) := by decide +kernel
theorem dX6_planNow_53 : decode cX6_planNow 53 = .ok (.iadd, 1) := by decide +kernel
theorem dX6_planNow_54 : decode cX6_planNow 54 = .ok (.iastore, 1) := by decide +kernel
theorem dX6_planNow_55 : decode cX6_planNow 55 = .ok (.return_, 1) := by decide +kernel
theorem dX6_plan_0 : decode cX6_plan 0 = .ok (.aload_n 0, 1) := by decide +kernel
theorem dX6_plan_1 : decode cX6_plan 1 = .ok (.iconst 0, 1) := by decide +kernel
theorem dX6_plan_2 : decode cX6_plan 2 = .ok (.putfield 28, 3) := by decide +kernel
theorem dX6_plan_5 : decode cX6_plan 5 = .ok (.aload_n 0, 1) := by decide +kernel
theorem dX6_plan_6 : decode cX6_plan 6 = .ok (.iload_n 1, 1) := by decide +kernel
theorem dX6_plan_7 : decode cX6_plan 7 = .ok (.invokevirtual 123, 3) := by decide +kernel
theorem dX6_plan_10 : decode cX6_plan 10 = .ok (.ifCond .ne 9, 3) := by decide +kernel
theorem dX6_plan_13 : decode cX6_plan 13 = .ok (.aload_n 0, 1) := by decide +kernel
theorem dX6_plan_14 : decode cX6_plan 14 = .ok (.iconst 1, 1) := by decide +kernel
theorem dX6_plan_15 : decode cX6_plan 15 = .ok (.invokevirtual 114, 3) := by decide +kernel
theorem dX6_plan_18 : decode cX6_plan 18 = .ok (.ireturn, 1) := by decide +kernel
theorem dX6_plan_19 : decode cX6_plan 19 = .ok (.iload_n 2, 1) := by decide +kernel
theorem dX6_plan_20 : decode cX6_plan 20 = .ok (.iconst 1, 1) := by decide +kernel
theorem dX6_plan_21 : decode cX6_plan 21 = .ok (.bipush 60, 2) := by decide +kernel
theorem dX6_plan_23 : decode cX6_plan 23 = .ok (.invokestatic 35, 3) := by decide +kernel
theorem dX6_plan_26 : decode cX6_plan 26 = .ok (.ifCond .ne 9, 3) := by decide +kernel
theorem dX6_plan_29 : decode cX6_plan 29 = .ok (.aload_n 0, 1) := by decide +kernel
theorem dX6_plan_30 : decode cX6_plan 30 = .ok (.iconst 2, 1) := by decide +kernel
theorem dX6_plan_31 : decode cX6_plan 31 = .ok (.invokevirtual 114, 3) := by decide +kernel
theorem dX6_plan_34 : decode cX6_plan 34 = .ok (.ireturn, 1) := by decide +kernel
theorem dX6_plan_35 : decode cX6_plan 35 = .ok (.aload_n 0, 1) := by decide +kernel
theorem dX6_plan_36 : decode cX6_plan 36 = .ok (.iload_n 1, 1) := by decide +kernel
theorem dX6_plan_37 : decode cX6_plan 37 = .ok (.invokevirtual 43, 3) := by decide +kernel
theorem dX6_plan_40 : decode cX6_plan 40 = .ok (.ifCond .eq 19, 3) := by decide +kernel
theorem dX6_plan_43 : decode cX6_plan 43 = .ok (.aload_n 0, 1) := by decide +kernel
theorem dX6_plan_44 : decode cX6_plan 44 = .ok (.getfield 7, 3) := by decide +kernel
theorem dX6_plan_47 : decode cX6_plan 47 = .ok (.iload_n 1, 1) := by decide +kernel
theorem dX6_plan_48 : decode cX6_plan 48 = .ok (.invokestatic 39, 3) := by decide +kernel
theorem dX6_plan_51 : decode cX6_plan 51 = .ok (.iconst 5, 1) := by decide +kernel
theorem dX6_plan_52 : decode cX6_plan 52 = .ok (.iadd, 1) := by decide +kernel
theorem dX6_plan_53 : decode cX6_plan 53 = .ok (.iaload, 1) := by decide +kernel
theorem dX6_plan_54 : decode cX6_plan 54 = .ok (.bipush 8, 2) := by decide +kernel
theorem dX6_plan_56 : decode cX6_plan 56 = .ok (.if_icmp .ne 9, 3) := by decide +kernel
theorem dX6_plan_59 : decode cX6_plan 59 = .ok (.aload_n 0, 1) := by decide +kernel
theorem dX6_plan_60 : decode cX6_plan 60 = .ok (.iconst 3, 1) := by decide +kernel
theorem dX6_plan_61 : decode cX6_plan 61 = .ok (.invokevirtual 114, 3) := by decide +kernel
theorem dX6_plan_64 : decode cX6_plan 64 = .ok (.ireturn, 1) := by decide +kernel
theorem dX6_plan_65 : decode cX6_plan 65 = .ok (.aload_n 0, 1) := by decide +kernel
theorem dX6_plan_66 : decode cX6_plan 66 = .ok (.invokevirtual 117, 3) := by decide +kernel
theorem dX6_plan_69 : decode cX6_plan 69 = .ok (.aload_n 0, 1) := by decide +kernel
theorem dX6_plan_70 : decode cX6_plan 70 = .ok (.iload_n 1, 1) := by decide +kernel
theorem dX6_plan_71 : decode cX6_plan 71 = .ok (.iload_n 2, 1) := by decide +kernel
theorem dX6_plan_72 : decode cX6_plan 72 = .ok (.invokevirtual 126, 3) := by decide +kernel
theorem dX6_plan_75 : decode cX6_plan 75 = .ok (.aload_n 0, 1) := by decide +kernel
theorem dX6_plan_76 : decode cX6_plan 76 = .ok (.getfield 7, 3) := by decide +kernel
theorem dX6_plan_79 : decode cX6_plan 79 = .ok (.iload_n 1, 1) := by decide +kernel
theorem dX6_plan_80 : decode cX6_plan 80 = .ok (.invokestatic 39, 3) := by decide +kernel
theorem dX6_plan_83 : decode cX6_plan 83 = .ok (.iconst 5, 1) := by decide +kernel
theorem dX6_plan_84 : decode cX6_plan 84 = .ok (.iadd, 1) := by decide +kernel
theorem dX6_plan_85 : decode cX6_plan 85 = .ok (.iaload, 1) := by decide +kernel
theorem dX6_plan_86 : decode cX6_plan 86 = .ok (.iconst 1, 1) := by decide +kernel
theorem dX6_plan_87 : decode cX6_plan 87 = .ok (.isub, 1) := by decide +kernel
theorem dX6_plan_88 : decode cX6_plan 88 = .ok (.ireturn, 1) := by decide +kernel
theorem dX6_rank_0 : decode cX6_rank 0 = .ok (.aload_n 0, 1) := by decide +kernel
theorem dX6_rank_1 : decode cX6_rank 1 = .ok (.iconst 0, 1) := by decide +kernel
theorem dX6_rank_2 : decode cX6_rank 2 = .ok (.putfield 28, 3) := by decide +kernel
theorem dX6_rank_5 : decode cX6_rank 5 = .ok (.aload_n 0, 1) := by decide +kernel
theorem dX6_rank_6 : decode cX6_rank 6 = .ok (.iload_n 1, 1) := by decide +kernel
theorem dX6_rank_7 : decode cX6_rank 7 = .ok (.invokevirtual 123, 3) := by decide +kernel
theorem dX6_rank_10 : decode cX6_rank 10 = .ok (.ifCond .ne 9, 3) := by decide +kernel
theorem dX6_rank_13 : decode cX6_rank 13 = .ok (.aload_n 0, 1) := by decide +kernel
theorem dX6_rank_14 : decode cX6_rank 14 = .ok (.iconst 1, 1) := by decide +kernel
theorem dX6_rank_15 : decode cX6_rank 15 = .ok (.invokevirtual 114, 3) := by decide +kernel
theorem dX6_rank_18 : decode cX6_rank 18 = .ok (.ireturn, 1) := by decide +kernel
theorem dX6_rank_19 : decode cX6_rank 19 = .ok (.iload_n 2, 1) := by decide +kernel
theorem dX6_rank_20 : decode cX6_rank 20 = .ok (.invokestatic 111, 3) := by decide +kernel
theorem dX6_rank_23 : decode cX6_rank 23 = .ok (.ifCond .ne 9, 3) := by decide +kernel
theorem dX6_rank_26 : decode cX6_rank 26 = .ok (.aload_n 0, 1) := by decide +kernel
theorem dX6_rank_27 : decode cX6_rank 27 = .ok (.iconst 2, 1) := by decide +kernel
theorem dX6_rank_28 : decode cX6_rank 28 = .ok (.invokevirtual 114, 3) := by decide +kernel
theorem dX6_rank_31 : decode cX6_rank 31 = .ok (.ireturn, 1) := by decide +kernel
theorem dX6_rank_32 : decode cX6_rank 32 = .ok (.aload_n 0, 1) := by decide +kernel
theorem dX6_rank_33 : decode cX6_rank 33 = .ok (.invokevirtual 117, 3) := by decide +kernel
theorem dX6_rank_36 : decode cX6_rank 36 = .ok (.aload_n 0, 1) := by decide +kernel
theorem dX6_rank_37 : decode cX6_rank 37 = .ok (.getfield 7, 3) := by decide +kernel
theorem dX6_rank_40 : decode cX6_rank 40 = .ok (.iload_n 1, 1) := by decide +kernel
theorem dX6_rank_41 : decode cX6_rank 41 = .ok (.invokestatic 39, 3) := by decide +kernel
theorem dX6_rank_44 : decode cX6_rank 44 = .ok (.iaload, 1) := by decide +kernel
theorem dX6_rank_45 : decode cX6_rank 45 = .ok (.istore_n 3, 1) := by decide +kernel
theorem dX6_rank_46 : decode cX6_rank 46 = .ok (.aload_n 0, 1) := by decide +kernel
theorem dX6_rank_47 : decode cX6_rank 47 = .ok (.getfield 7, 3) := by decide +kernel
theorem dX6_rank_50 : decode cX6_rank 50 = .ok (.iload_n 1, 1) := by decide +kernel
theorem dX6_rank_51 : decode cX6_rank 51 = .ok (.invokestatic 39, 3) := by decide +kernel
theorem dX6_rank_54 : decode cX6_rank 54 = .ok (.iload_n 2, 1) := by decide +kernel
theorem dX6_rank_55 : decode cX6_rank 55 = .ok (.iastore, 1) := by decide +kernel
theorem dX6_rank_56 : decode cX6_rank 56 = .ok (.iload_n 3, 1) := by decide +kernel
theorem dX6_rank_57 : decode cX6_rank 57 = .ok (.ireturn, 1) := by decide +kernel
theorem dX6_set_0 : decode cX6_set 0 = .ok (.aload_n 0, 1) := by decide +kernel
theorem dX6_set_1 : decode cX6_set 1 = .ok (.iconst 0, 1) := by decide +kernel
theorem dX6_set_2 : decode cX6_set 2 = .ok (.putfield 28, 3) := by decide +kernel
theorem dX6_set_5 : decode cX6_set 5 = .ok (.iload_n 1, 1) := by decide +kernel
theorem dX6_set_6 : decode cX6_set 6 = .ok (.iconst 0, 1) := by decide +kernel
theorem dX6_set_7 : decode cX6_set 7 = .ok (.iconst 2, 1) := by decide +kernel
theorem dX6_set_8 : decode cX6_set 8 = .ok (.invokestatic 35, 3) := by decide +kernel
theorem dX6_set_11 : decode cX6_set 11 = .ok (.ifCond .ne 9, 3) := by decide +kernel
theorem dX6_set_14 : decode cX6_set 14 = .ok (.aload_n 0, 1) := by decide +kernel
theorem dX6_set_15 : decode cX6_set 15 = .ok (.iconst 1, 1) := by decide +kernel
theorem dX6_set_16 : decode cX6_set 16 = .ok (.invokevirtual 114, 3) := by decide +kernel
theorem dX6_set_19 : decode cX6_set 19 = .ok (.ireturn, 1) := by decide +kernel
theorem dX6_set_20 : decode cX6_set 20 = .ok (.iload_n 2, 1) := by decide +kernel
theorem dX6_set_21 : decode cX6_set 21 = .ok (.iconst 0, 1) := by decide +kernel
theorem dX6_set_22 : decode cX6_set 22 = .ok (.iload_n 1, 1) := by decide +kernel
theorem dX6_set_23 : decode cX6_set 23 = .ok (.ifCond .ne 7, 3) := by decide +kernel
theorem dX6_set_26 : decode cX6_set 26 = .ok (.iconst 2, 1) := by decide +kernel
theorem dX6_set_27 : decode cX6_set 27 = .ok (.goto 5, 3) := by decide +kernel
theorem dX6_set_30 : decode cX6_set 30 = .ok (.bipush 100, 2) := by decide +kernel
theorem dX6_set_32 : decode cX6_set 32 = .ok (.invokestatic 35, 3) := by decide +kernel
theorem dX6_set_35 : decode cX6_set 35 = .ok (.ifCond .ne 9, 3) := by decide +kernel
theorem dX6_set_38 : decode cX6_set 38 = .ok (.aload_n 0, 1) := by decide +kernel
theorem dX6_set_39 : decode cX6_set 39 = .ok (.iconst 2, 1) := by decide +kernel
theorem dX6_set_40 : decode cX6_set 40 = .ok (.invokevirtual 114, 3) := by decide +kernel
theorem dX6_set_43 : decode cX6_set 43 = .ok (.ireturn, 1) := by decide +kernel
theorem dX6_set_44 : decode cX6_set 44 = .ok (.aload_n 0, 1) := by decide +kernel
theorem dX6_set_45 : decode cX6_set 45 = .ok (.invokevirtual 117, 3) := by decide +kernel
theorem dX6_set_48 : decode cX6_set 48 = .ok (.aload_n 0, 1) := by decide +kernel
theorem dX6_set_49 : decode cX6_set 49 = .ok (.getfield 7, 3) := by decide +kernel
theorem dX6_set_52 : decode cX6_set 52 = .ok (.iconst 3, 1) := by decide +kernel
theorem dX6_set_53 : decode cX6_set 53 = .ok (.iload_n 1, 1) := by decide +kernel
theorem dX6_set_54 : decode cX6_set 54 = .ok (.iadd, 1) := by decide +kernel
theorem dX6_set_55 : decode cX6_set 55 = .ok (.iaload, 1) := by decide +kernel
theorem dX6_set_56 : decode cX6_set 56 = .ok (.istore_n 3, 1) := by decide +kernel
theorem dX6_set_57 : decode cX6_set 57 = .ok (.aload_n 0, 1) := by decide +kernel
theorem dX6_set_58 : decode cX6_set 58 = .ok (.getfield 7, 3) := by decide +kernel
theorem dX6_set_61 : decode cX6_set 61 = .ok (.iconst 3, 1) := by decide +kernel
theorem dX6_set_62 : decode cX6_set 62 = .ok (.iload_n 1, 1) := by decide +kernel
theorem dX6_set_63 : decode cX6_set 63 = .ok (.iadd, 1) := by decide +kernel
theorem dX6_set_64 : decode cX6_set 64 = .ok (.iload_n 2, 1) := by decide +kernel
theorem dX6_set_65 : decode cX6_set 65 = .ok (.iastore, 1) := by decide +kernel
theorem dX6_set_66 : decode cX6_set 66 = .ok (.iload_n 3, 1) := by decide +kernel
theorem dX6_set_67 : decode cX6_set 67 = .ok (.ireturn, 1) := by decide +kernel
theorem dX6_done_0 : decode cX6_done 0 = .ok (.aload_n 0, 1) := by decide +kernel
theorem dX6_done_1 : decode cX6_done 1 = .ok (.iconst 0, 1) := by decide +kernel
theorem dX6_done_2 : decode cX6_done 2 = .ok (.putfield 28, 3) := by decide +kernel
theorem dX6_done_5 : decode cX6_done 5 = .ok (.aload_n 0, 1) := by decide +kernel
theorem dX6_done_6 : decode cX6_done 6 = .ok (.iload_n 1, 1) := by decide +kernel
theorem dX6_done_7 : decode cX6_done 7 = .ok (.invokevirtual 123, 3) := by decide +kernel
theorem dX6_done_10 : decode cX6_done 10 = .ok (.ifCond .ne 9, 3) := by decide +kernel
theorem dX6_done_13 : decode cX6_done 13 = .ok (.aload_n 0, 1) := by decide +kernel
theorem dX6_done_14 : decode cX6_done 14 = .ok (.iconst 1, 1) := by decide +kernel
theorem dX6_done_15 : decode cX6_done 15 = .ok (.invokevirtual 114, 3) := by decide +kernel
theorem dX6_done_18 : decode cX6_done 18 = .ok (.ireturn, 1) := by decide +kernel
theorem dX6_done_19 : decode cX6_done 19 = .ok (.iload_n 2, 1) := by decide +kernel
theorem dX6_done_20 : decode cX6_done 20 = .ok (.iconst 0, 1) := by decide +kernel
theorem dX6_done_21 : decode cX6_done 21 = .ok (.sipush 300, 3) := by decide +kernel
theorem dX6_done_24 : decode cX6_done 24 = .ok (.invokestatic 35, 3) := by decide +kernel
theorem dX6_done_27 : decode cX6_done 27 = .ok (.ifCond .ne 9, 3) := by decide +kernel
theorem dX6_done_30 : decode cX6_done 30 = .ok (.aload_n 0, 1) := by decide +kernel
theorem dX6_done_31 : decode cX6_done 31 = .ok (.iconst 2, 1) := by decide +kernel
theorem dX6_done_32 : decode cX6_done 32 = .ok (.invokevirtual 114, 3) := by decide +kernel
theorem dX6_done_35 : decode cX6_done 35 = .ok (.ireturn, 1) := by decide +kernel
theorem dX6_done_36 : decode cX6_done 36 = .ok (.aload_n 0, 1) := by decide +kernel
theorem dX6_done_37 : decode cX6_done 37 = .ok (.iload_n 1, 1) := by decide +kernel
theorem dX6_done_38 : decode cX6_done 38 = .ok (.invokevirtual 129, 3) := by decide +kernel
theorem dX6_done_41 : decode cX6_done 41 = .ok (.ifCond .ne 9, 3) := by decide +kernel
theorem dX6_done_44 : decode cX6_done 44 = .ok (.aload_n 0, 1) := by decide +kernel
theorem dX6_done_45 : decode cX6_done 45 = .ok (.iconst 3, 1) := by decide +kernel
theorem dX6_done_46 : decode cX6_done 46 = .ok (.invokevirtual 114, 3) := by decide +kernel
theorem dX6_done_49 : decode cX6_done 49 = .ok (.ireturn, 1) := by decide +kernel
theorem dX6_done_50 : decode cX6_done 50 = .ok (.aload_n 0, 1) := by decide +kernel
theorem dX6_done_51 : decode cX6_done 51 = .ok (.invokevirtual 117, 3) := by decide +kernel
theorem dX6_done_54 : decode cX6_done 54 = .ok (.aload_n 0, 1) := by decide +kernel
theorem dX6_done_55 : decode cX6_done 55 = .ok (.iload_n 1, 1) := by decide +kernel
theorem dX6_done_56 : decode cX6_done 56 = .ok (.iload_n 2, 1) := by decide +kernel
theorem dX6_done_57 : decode cX6_done 57 = .ok (.invokevirtual 132, 3) := by decide +kernel
theorem dX6_done_60 : decode cX6_done 60 = .ok (.aload_n 0, 1) := by decide +kernel
theorem dX6_done_61 : decode cX6_done 61 = .ok (.getfield 93, 3) := by decide +kernel
theorem dX6_done_64 : decode cX6_done 64 = .ok (.ireturn, 1) := by decide +kernel
theorem dX6_lend_0 : decode cX6_lend 0 = .ok (.aload_n 0, 1) := by decide +kernel
theorem dX6_lend_1 : decode cX6_lend 1 = .ok (.iconst 0, 1) := by decide +kernel
theorem dX6_lend_2 : decode cX6_lend 2 = .ok (.putfield 28, 3) := by decide +kernel
theorem dX6_lend_5 : decode cX6_lend 5 = .ok (.aload_n 0, 1) := by decide +kernel
theorem dX6_lend_6 : decode cX6_lend 6 = .ok (.iload_n 1, 1) := by decide +kernel
theorem dX6_lend_7 : decode cX6_lend 7 = .ok (.invokevirtual 123, 3) := by decide +kernel
theorem dX6_lend_10 : decode cX6_lend 10 = .ok (.ifCond .eq 11, 3) := by decide +kernel
theorem dX6_lend_13 : decode cX6_lend 13 = .ok (.aload_n 0, 1) := by decide +kernel
theorem dX6_lend_14 : decode cX6_lend 14 = .ok (.iload_n 2, 1) := by decide +kernel
theorem dX6_lend_15 : decode cX6_lend 15 = .ok (.invokevirtual 123, 3) := by decide +kernel
theorem dX6_lend_18 : decode cX6_lend 18 = .ok (.ifCond .ne 9, 3) := by decide +kernel
theorem dX6_lend_21 : decode cX6_lend 21 = .ok (.aload_n 0, 1) := by decide +kernel
theorem dX6_lend_22 : decode cX6_lend 22 = .ok (.iconst 1, 1) := by decide +kernel
theorem dX6_lend_23 : decode cX6_lend 23 = .ok (.invokevirtual 114, 3) := by decide +kernel
theorem dX6_lend_26 : decode cX6_lend 26 = .ok (.ireturn, 1) := by decide +kernel
theorem dX6_lend_27 : decode cX6_lend 27 = .ok (.iload_n 1, 1) := by decide +kernel
theorem dX6_lend_28 : decode cX6_lend 28 = .ok (.iload_n 2, 1) := by decide +kernel
theorem dX6_lend_29 : decode cX6_lend 29 = .ok (.if_icmp .eq 13, 3) := by decide +kernel
theorem dX6_lend_32 : decode cX6_lend 32 = .ok (.iload_n 3, 1) := by decide +kernel
theorem dX6_lend_33 : decode cX6_lend 33 = .ok (.iconst 1, 1) := by decide +kernel
theorem dX6_lend_34 : decode cX6_lend 34 = .ok (.bipush 99, 2) := by decide +kernel
theorem dX6_lend_36 : decode cX6_lend 36 = .ok (.invokestatic 35, 3) := by decide +kernel
theorem dX6_lend_39 : decode cX6_lend 39 = .ok (.ifCond .ne 9, 3) := by decide +kernel
theorem dX6_lend_42 : decode cX6_lend 42 = .ok (.aload_n 0, 1) := by decide +kernel
theorem dX6_lend_43 : decode cX6_lend 43 = .ok (.iconst 2, 1) := by decide +kernel
theorem dX6_lend_44 : decode cX6_lend 44 = .ok (.invokevirtual 114, 3) := by decide +kernel
theorem dX6_lend_47 : decode cX6_lend 47 = .ok (.ireturn, 1) := by decide +kernel
theorem dX6_lend_48 : decode cX6_lend 48 = .ok (.aload_n 0, 1) := by decide +kernel
theorem dX6_lend_49 : decode cX6_lend 49 = .ok (.iload_n 1, 1) := by decide +kernel
theorem dX6_lend_50 : decode cX6_lend 50 = .ok (.invokevirtual 43, 3) := by decide +kernel
theorem dX6_lend_53 : decode cX6_lend 53 = .ok (.ifCond .eq 26, 3) := by decide +kernel
theorem dX6_lend_56 : decode cX6_lend 56 = .ok (.aload_n 0, 1) := by decide +kernel
theorem dX6_lend_57 : decode cX6_lend 57 = .ok (.iload_n 2, 1) := by decide +kernel
theorem dX6_lend_58 : decode cX6_lend 58 = .ok (.invokevirtual 43, 3) := by decide +kernel
theorem dX6_lend_61 : decode cX6_lend 61 = .ok (.ifCond .eq 18, 3) := by decide +kernel
theorem dX6_lend_64 : decode cX6_lend 64 = .ok (.aload_n 0, 1) := by decide +kernel
theorem dX6_lend_65 : decode cX6_lend 65 = .ok (.getfield 7, 3) := by decide +kernel
theorem dX6_lend_68 : decode cX6_lend 68 = .ok (.iload_n 1, 1) := by decide +kernel
theorem dX6_lend_69 : decode cX6_lend 69 = .ok (.invokestatic 39, 3) := by decide +kernel
theorem dX6_lend_72 : decode cX6_lend 72 = .ok (.iconst 2, 1) := by decide +kernel
theorem dX6_lend_73 : decode cX6_lend 73 = .ok (.iadd, 1) := by decide +kernel
theorem dX6_lend_74 : decode cX6_lend 74 = .ok (.iaload, 1) := by decide +kernel
theorem dX6_lend_75 : decode cX6_lend 75 = .ok (.iload_n 3, 1) := by decide +kernel
theorem dX6_lend_76 : decode cX6_lend 76 = .ok (.if_icmp .ge 9, 3) := by decide +kernel
theorem dX6_lend_79 : decode cX6_lend 79 = .ok (.aload_n 0, 1) := by decide +kernel
theorem dX6_lend_80 : decode cX6_lend 80 = .ok (.iconst 3, 1) := by decide +kernel
theorem dX6_lend_81 : decode cX6_lend 81 = .ok (.invokevirtual 114, 3) := by decide +kernel
theorem dX6_lend_84 : decode cX6_lend 84 = .ok (.ireturn, 1) := by decide +kernel
theorem dX6_lend_85 : decode cX6_lend 85 = .ok (.aload_n 0, 1) := by decide +kernel
theorem dX6_lend_86 : decode cX6_lend 86 = .ok (.invokevirtual 117, 3) := by decide +kernel
theorem dX6_lend_89 : decode cX6_lend 89 = .ok (.aload_n 0, 1) := by decide +kernel
theorem dX6_lend_90 : decode cX6_lend 90 = .ok (.iload_n 1, 1) := by decide +kernel
theorem dX6_lend_91 : decode cX6_lend 91 = .ok (.iload_n 2, 1) := by decide +kernel
theorem dX6_lend_92 : decode cX6_lend 92 = .ok (.iload_n 3, 1) := by decide +kernel
theorem dX6_lend_93 : decode cX6_lend 93 = .ok (.invokevirtual 86, 3) := by decide +kernel
theorem dX6_lend_96 : decode cX6_lend 96 = .ok (.aload_n 0, 1) := by decide +kernel
theorem dX6_lend_97 : decode cX6_lend 97 = .ok (.getfield 7, 3) := by decide +kernel
theorem dX6_lend_100 : decode cX6_lend 100 = .ok (.iload_n 1, 1) := by decide +kernel
theorem dX6_lend_101 : decode cX6_lend 101 = .ok (.invokestatic 39, 3) := by decide +kernel
theorem dX6_lend_104 : decode cX6_lend 104 = .ok (.iconst 2, 1) := by decide +kernel
theorem dX6_lend_105 : decode cX6_lend 105 = .ok (.iadd, 1) := by decide +kernel
theorem dX6_lend_106 : decode cX6_lend 106 = .ok (.dup2, 1) := by decide +kernel
theorem dX6_lend_107 : decode cX6_lend 107 = .ok (.iaload, 1) := by decide +kernel
theorem dX6_lend_108 : decode cX6_lend 108 = .ok (.iload_n 3, 1) := by decide +kernel
theorem dX6_lend_109 : decode cX6_lend 109 = .ok (.isub, 1) := by decide +kernel
theorem dX6_lend_110 : decode cX6_lend 110 = .ok (.iastore, 1) := by decide +kernel
theorem dX6_lend_111 : decode cX6_lend 111 = .ok (.aload_n 0, 1) := by decide +kernel
theorem dX6_lend_112 : decode cX6_lend 112 = .ok (.getfield 7, 3) := by decide +kernel
theorem dX6_lend_115 : decode cX6_lend 115 = .ok (.iload_n 2, 1) := by decide +kernel
theorem dX6_lend_116 : decode cX6_lend 116 = .ok (.invokestatic 39, 3) := by decide +kernel
theorem dX6_lend_119 : decode cX6_lend 119 = .ok (.iconst 2, 1) := by decide +kernel
theorem dX6_lend_120 : decode cX6_lend 120 = .ok (.iadd, 1) := by decide +kernel
theorem dX6_lend_121 : decode cX6_lend 121 = .ok (.dup2, 1) := by decide +kernel
theorem dX6_lend_122 : decode cX6_lend 122 = .ok (.iaload, 1) := by decide +kernel
theorem dX6_lend_123 : decode cX6_lend 123 = .ok (.iload_n 3, 1) := by decide +kernel
theorem dX6_lend_124 : decode cX6_lend 124 = .ok (.iadd, 1) := by decide +kernel
theorem dX6_lend_125 : decode cX6_lend 125 = .ok (.iastore, 1) := by decide +kernel
theorem dX6_lend_126 : decode cX6_lend 126 = .ok (.aload_n 0, 1) := by decide +kernel
theorem dX6_lend_127 : decode cX6_lend 127 = .ok (.iload_n 2, 1) := by decide +kernel
theorem dX6_lend_128 : decode cX6_lend 128 = .ok (.iload_n 1, 1) := by decide +kernel
theorem dX6_lend_129 : decode cX6_lend 129 = .ok (.invokevirtual 135, 3) := by decide +kernel
theorem dX6_lend_132 : decode cX6_lend 132 = .ok (.ireturn, 1) := by decide +kernel
theorem dX6_payBack_0 : decode cX6_payBack 0 = .ok (.aload_n 0, 1) := by decide +kernel
theorem dX6_payBack_1 : decode cX6_payBack 1 = .ok (.iconst 0, 1) := by decide +kernel
theorem dX6_payBack_2 : decode cX6_payBack 2 = .ok (.putfield 28, 3) := by decide +kernel
theorem dX6_payBack_5 : decode cX6_payBack 5 = .ok (.aload_n 0, 1) := by decide +kernel
theorem dX6_payBack_6 : decode cX6_payBack 6 = .ok (.iload_n 1, 1) := by decide +kernel
theorem dX6_payBack_7 : decode cX6_payBack 7 = .ok (.invokevirtual 123, 3) := by decide +kernel
theorem dX6_payBack_10 : decode cX6_payBack 10 = .ok (.ifCond .eq 11, 3) := by decide +kernel
theorem dX6_payBack_13 : decode cX6_payBack 13 = .ok (.aload_n 0, 1) := by decide +kernel
theorem dX6_payBack_14 : decode cX6_payBack 14 = .ok (.iload_n 2, 1) := by decide +kernel
theorem dX6_payBack_15 : decode cX6_payBack 15 = .ok (.invokevirtual 123, 3) := by decide +kernel
theorem dX6_payBack_18 : decode cX6_payBack 18 = .ok (.ifCond .ne 9, 3) := by decide +kernel
theorem dX6_payBack_21 : decode cX6_payBack 21 = .ok (.aload_n 0, 1) := by decide +kernel
theorem dX6_payBack_22 : decode cX6_payBack 22 = .ok (.iconst 1, 1) := by decide +kernel
theorem dX6_payBack_23 : decode cX6_payBack 23 = .ok (.invokevirtual 114, 3) := by decide +kernel
theorem dX6_payBack_26 : decode cX6_payBack 26 = .ok (.ireturn, 1) := by decide +kernel
theorem dX6_payBack_27 : decode cX6_payBack 27 = .ok (.iload_n 2, 1) := by decide +kernel
theorem dX6_payBack_28 : decode cX6_payBack 28 = .ok (.iload_n 1, 1) := by decide +kernel
theorem dX6_payBack_29 : decode cX6_payBack 29 = .ok (.if_icmp .eq 14, 3) := by decide +kernel
theorem dX6_payBack_32 : decode cX6_payBack 32 = .ok (.iload_n 3, 1) := by decide +kernel
theorem dX6_payBack_33 : decode cX6_payBack 33 = .ok (.iconst 1, 1) := by decide +kernel
theorem dX6_payBack_34 : decode cX6_payBack 34 = .ok (.sipush 9999, 3) := by decide +kernel
theorem dX6_payBack_37 : decode cX6_payBack 37 = .ok (.invokestatic 35, 3) := by decide +kernel
theorem dX6_payBack_40 : decode cX6_payBack 40 = .ok (.ifCond .ne 9, 3) := by decide +kernel
theorem dX6_payBack_43 : decode cX6_payBack 43 = .ok (.aload_n 0, 1) := by decide +kernel
theorem dX6_payBack_44 : decode cX6_payBack 44 = .ok (.iconst 2, 1) := by decide +kernel
theorem dX6_payBack_45 : decode cX6_payBack 45 = .ok (.invokevirtual 114, 3) := by decide +kernel
theorem dX6_payBack_48 : decode cX6_payBack 48 = .ok (.ireturn, 1) := by decide +kernel
theorem dX6_payBack_49 : decode cX6_payBack 49 = .ok (.aload_n 0, 1) := by decide +kernel
theorem dX6_payBack_50 : decode cX6_payBack 50 = .ok (.iload_n 1, 1) := by decide +kernel
theorem dX6_payBack_51 : decode cX6_payBack 51 = .ok (.iload_n 2, 1) := by decide +kernel
theorem dX6_payBack_52 : decode cX6_payBack 52 = .ok (.invokevirtual 135, 3) := by decide +kernel
theorem dX6_payBack_55 : decode cX6_payBack 55 = .ok (.iload_n 3, 1) := by decide +kernel
theorem dX6_payBack_56 : decode cX6_payBack 56 = .ok (.if_icmp .lt 18, 3) := by decide +kernel
theorem dX6_payBack_59 : decode cX6_payBack 59 = .ok (.aload_n 0, 1) := by decide +kernel
theorem dX6_payBack_60 : decode cX6_payBack 60 = .ok (.getfield 7, 3) := by decide +kernel
theorem dX6_payBack_63 : decode cX6_payBack 63 = .ok (.iload_n 1, 1) := by decide +kernel
theorem dX6_payBack_64 : decode cX6_payBack 64 = .ok (.invokestatic 39, 3) := by decide +kernel
theorem dX6_payBack_67 : decode cX6_payBack 67 = .ok (.iconst 2, 1) := by decide +kernel
theorem dX6_payBack_68 : decode cX6_payBack 68 = .ok (.iadd, 1) := by decide +kernel
theorem dX6_payBack_69 : decode cX6_payBack 69 = .ok (.iaload, 1) := by decide +kernel
theorem dX6_payBack_70 : decode cX6_payBack 70 = .ok (.iload_n 3, 1) := by decide +kernel
theorem dX6_payBack_71 : decode cX6_payBack 71 = .ok (.if_icmp .ge 9, 3) := by decide +kernel
theorem dX6_payBack_74 : decode cX6_payBack 74 = .ok (.aload_n 0, 1) := by decide +kernel
theorem dX6_payBack_75 : decode cX6_payBack 75 = .ok (.iconst 3, 1) := by decide +kernel
theorem dX6_payBack_76 : decode cX6_payBack 76 = .ok (.invokevirtual 114, 3) := by decide +kernel
theorem dX6_payBack_79 : decode cX6_payBack 79 = .ok (.ireturn, 1) := by decide +kernel
theorem dX6_payBack_80 : decode cX6_payBack 80 = .ok (.aload_n 0, 1) := by decide +kernel
theorem dX6_payBack_81 : decode cX6_payBack 81 = .ok (.invokevirtual 117, 3) := by decide +kernel
theorem dX6_payBack_84 : decode cX6_payBack 84 = .ok (.aload_n 0, 1) := by decide +kernel
theorem dX6_payBack_85 : decode cX6_payBack 85 = .ok (.getfield 7, 3) := by decide +kernel
theorem dX6_payBack_88 : decode cX6_payBack 88 = .ok (.iload_n 1, 1) := by decide +kernel
theorem dX6_payBack_89 : decode cX6_payBack 89 = .ok (.invokestatic 39, 3) := by decide +kernel
theorem dX6_payBack_92 : decode cX6_payBack 92 = .ok (.iconst 2, 1) := by decide +kernel
theorem dX6_payBack_93 : decode cX6_payBack 93 = .ok (.iadd, 1) := by decide +kernel
theorem dX6_payBack_94 : decode cX6_payBack 94 = .ok (.dup2, 1) := by decide +kernel
theorem dX6_payBack_95 : decode cX6_payBack 95 = .ok (.iaload, 1) := by decide +kernel
theorem dX6_payBack_96 : decode cX6_payBack 96 = .ok (.iload_n 3, 1) := by decide +kernel
theorem dX6_payBack_97 : decode cX6_payBack 97 = .ok (.isub, 1) := by decide +kernel
theorem dX6_payBack_98 : decode cX6_payBack 98 = .ok (.iastore, 1) := by decide +kernel
theorem dX6_payBack_99 : decode cX6_payBack 99 = .ok (.aload_n 0, 1) := by decide +kernel
theorem dX6_payBack_100 : decode cX6_payBack 100 = .ok (.getfield 7, 3) := by decide +kernel
theorem dX6_payBack_103 : decode cX6_payBack 103 = .ok (.iload_n 2, 1) := by decide +kernel
theorem dX6_payBack_104 : decode cX6_payBack 104 = .ok (.invokestatic 39, 3) := by decide +kernel
theorem dX6_payBack_107 : decode cX6_payBack 107 = .ok (.iconst 2, 1) := by decide +kernel
theorem dX6_payBack_108 : decode cX6_payBack 108 = .ok (.iadd, 1) := by decide +kernel
theorem dX6_payBack_109 : decode cX6_payBack 109 = .ok (.dup2, 1) := by decide +kernel
theorem dX6_payBack_110 : decode cX6_payBack 110 = .ok (.iaload, 1) := by decide +kernel
theorem dX6_payBack_111 : decode cX6_payBack 111 = .ok (.iload_n 3, 1) := by decide +kernel
theorem dX6_payBack_112 : decode cX6_payBack 112 = .ok (.iadd, 1) := by decide +kernel
theorem dX6_payBack_113 : decode cX6_payBack 113 = .ok (.iastore, 1) := by decide +kernel
theorem dX6_payBack_114 : decode cX6_payBack 114 = .ok (.aload_n 0, 1) := by decide +kernel
theorem dX6_payBack_115 : decode cX6_payBack 115 = .ok (.aload_n 0, 1) := by decide +kernel
theorem dX6_payBack_116 : decode cX6_payBack 116 = .ok (.iload_n 2, 1) := by decide +kernel
theorem dX6_payBack_117 : decode cX6_payBack 117 = .ok (.iload_n 1, 1) := by decide +kernel
theorem dX6_payBack_118 : decode cX6_payBack 118 = .ok (.invokevirtual 53, 3) := by decide +kernel
theorem dX6_payBack_121 : decode cX6_payBack 121 = .ok (.iload_n 3, 1) := by decide +kernel
theorem dX6_payBack_122 : decode cX6_payBack 122 = .ok (.invokevirtual 64, 3) := by decide +kernel
theorem dX6_payBack_125 : decode cX6_payBack 125 = .ok (.aload_n 0, 1) := by decide +kernel
theorem dX6_payBack_126 : decode cX6_payBack 126 = .ok (.iload_n 1, 1) := by decide +kernel
theorem dX6_payBack_127 : decode cX6_payBack 127 = .ok (.iload_n 2, 1) := by decide +kernel
theorem dX6_payBack_128 : decode cX6_payBack 128 = .ok (.invokevirtual 135, 3) := by decide +kernel
theorem dX6_payBack_131 : decode cX6_payBack 131 = .ok (.ireturn, 1) := by decide +kernel
theorem dX6_writeOff_0 : decode cX6_writeOff 0 = .ok (.iconst 0, 1) := by decide +kernel
theorem dX6_writeOff_1 : decode cX6_writeOff 1 = .ok (.istore_n 2, 1) := by decide +kernel
theorem dX6_writeOff_2 : decode cX6_writeOff 2 = .ok (.iconst 0, 1) := by decide +kernel
theorem dX6_writeOff_3 : decode cX6_writeOff 3 = .ok (.istore_n 3, 1) := by decide +kernel
theorem dX6_writeOff_4 : decode cX6_writeOff 4 = .ok (.iload_n 3, 1) := by decide +kernel
theorem dX6_writeOff_5 : decode cX6_writeOff 5 = .ok (.aload_n 0, 1) := by decide +kernel
theorem dX6_writeOff_6 : decode cX6_writeOff 6 = .ok (.getfield 7, 3) := by decide +kernel
theorem dX6_writeOff_9 : decode cX6_writeOff 9 = .ok (.iconst 1, 1) := by decide +kernel
theorem dX6_writeOff_10 : decode cX6_writeOff 10 = .ok (.iaload, 1) := by decide +kernel
theorem dX6_writeOff_11 : decode cX6_writeOff 11 = .ok (.if_icmp .ge 107, 3) := by decide +kernel
theorem dX6_writeOff_14 : decode cX6_writeOff 14 = .ok (.aload_n 0, 1) := by decide +kernel
theorem dX6_writeOff_15 : decode cX6_writeOff 15 = .ok (.getfield 7, 3) := by decide +kernel
theorem dX6_writeOff_18 : decode cX6_writeOff 18 = .ok (.iload_n 3, 1) := by decide +kernel
theorem dX6_writeOff_19 : decode cX6_writeOff 19 = .ok (.invokestatic 50, 3) := by decide +kernel
theorem dX6_writeOff_22 : decode cX6_writeOff 22 = .ok (.iaload, 1) := by decide +kernel
theorem dX6_writeOff_23 : decode cX6_writeOff 23 = .ok (.istore 4, 2) := by decide +kernel
theorem dX6_writeOff_25 : decode cX6_writeOff 25 = .ok (.aload_n 0, 1) := by decide +kernel
theorem dX6_writeOff_26 : decode cX6_writeOff 26 = .ok (.getfield 7, 3) := by decide +kernel
theorem dX6_writeOff_29 : decode cX6_writeOff 29 = .ok (.iload_n 3, 1) := by decide +kernel
theorem dX6_writeOff_30 : decode cX6_writeOff 30 = .ok (.invokestatic 50, 3) := by decide +kernel
theorem dX6_writeOff_33 : decode cX6_writeOff 33 = .ok (.iconst 1, 1) := by decide +kernel
theorem dX6_writeOff_34 : decode cX6_writeOff 34 = .ok (.iadd, 1) := by decide +kernel
theorem dX6_writeOff_35 : decode cX6_writeOff 35 = .ok (.iaload, 1) := by decide +kernel
theorem dX6_writeOff_36 : decode cX6_writeOff 36 = .ok (.istore 5, 2) := by decide +kernel
theorem dX6_writeOff_38 : decode cX6_writeOff 38 = .ok (.aload_n 0, 1) := by decide +kernel
theorem dX6_writeOff_39 : decode cX6_writeOff 39 = .ok (.getfield 7, 3) := by decide +kernel
theorem dX6_writeOff_42 : decode cX6_writeOff 42 = .ok (.iload_n 3, 1) := by decide +kernel
theorem dX6_writeOff_43 : decode cX6_writeOff 43 = .ok (.invokestatic 50, 3) := by decide +kernel
theorem dX6_writeOff_46 : decode cX6_writeOff 46 = .ok (.iconst 2, 1) := by decide +kernel
theorem dX6_writeOff_47 : decode cX6_writeOff 47 = .ok (.iadd, 1) := by decide +kernel
theorem dX6_writeOff_48 : decode cX6_writeOff 48 = .ok (.iaload, 1) := by decide +kernel
theorem dX6_writeOff_49 : decode cX6_writeOff 49 = .ok (.istore 6, 2) := by decide +kernel
theorem dX6_writeOff_51 : decode cX6_writeOff 51 = .ok (.iload 4, 2) := by decide +kernel
theorem dX6_writeOff_53 : decode cX6_writeOff 53 = .ok (.iload_n 1, 1) := by decide +kernel
theorem dX6_writeOff_54 : decode cX6_writeOff 54 = .ok (.if_icmp .eq 9, 3) := by decide +kernel
theorem dX6_writeOff_57 : decode cX6_writeOff 57 = .ok (.iload 5, 2) := by decide +kernel
theorem dX6_writeOff_59 : decode cX6_writeOff 59 = .ok (.iload_n 1, 1) := by decide +kernel
theorem dX6_writeOff_60 : decode cX6_writeOff 60 = .ok (.if_icmp .ne 52, 3) := by decide +kernel
theorem dX6_writeOff_63 : decode cX6_writeOff 63 = .ok (.aload_n 0, 1) := by decide +kernel
theorem dX6_writeOff_64 : decode cX6_writeOff 64 = .ok (.getfield 7, 3) := by decide +kernel
theorem dX6_writeOff_67 : decode cX6_writeOff 67 = .ok (.iload 4, 2) := by decide +kernel
theorem dX6_writeOff_69 : decode cX6_writeOff 69 = .ok (.invokestatic 39, 3) := by decide +kernel
theorem dX6_writeOff_72 : decode cX6_writeOff 72 = .ok (.bipush 9, 2) := by decide +kernel
theorem dX6_writeOff_74 : decode cX6_writeOff 74 = .ok (.iadd, 1) := by decide +kernel
theorem dX6_writeOff_75 : decode cX6_writeOff 75 = .ok (.dup2, 1) := by decide +kernel
theorem dX6_writeOff_76 : decode cX6_writeOff 76 = .ok (.iaload, 1) := by decide +kernel
theorem dX6_writeOff_77 : decode cX6_writeOff 77 = .ok (.iload 6, 2) := by decide +kernel
theorem dX6_writeOff_79 : decode cX6_writeOff 79 = .ok (.iadd, 1) := by decide +kernel
theorem dX6_writeOff_80 : decode cX6_writeOff 80 = .ok (.iastore, 1) := by decide +kernel
theorem dX6_writeOff_81 : decode cX6_writeOff 81 = .ok (.aload_n 0, 1) := by decide +kernel
theorem dX6_writeOff_82 : decode cX6_writeOff 82 = .ok (.getfield 7, 3) := by decide +kernel
theorem dX6_writeOff_85 : decode cX6_writeOff 85 = .ok (.iload 5, 2) := by decide +kernel
theorem dX6_writeOff_87 : decode cX6_writeOff 87 = .ok (.invokestatic 39, 3) := by decide +kernel
theorem dX6_writeOff_90 : decode cX6_writeOff 90 = .ok (.bipush 8, 2) := by decide +kernel
theorem dX6_writeOff_92 : decode cX6_writeOff 92 = .ok (.iadd, 1) := by decide +kernel
theorem dX6_writeOff_93 : decode cX6_writeOff 93 = .ok (.dup2, 1) := by decide +kernel
theorem dX6_writeOff_94 : decode cX6_writeOff 94 = .ok (.iaload, 1) := by decide +kernel
theorem dX6_writeOff_95 : decode cX6_writeOff 95 = .ok (.iload 6, 2) := by decide +kernel
theorem dX6_writeOff_97 : decode cX6_writeOff 97 = .ok (.iadd, 1) := by decide +kernel
theorem dX6_writeOff_98 : decode cX6_writeOff 98 = .ok (.iastore, 1) := by decide +kernel
theorem dX6_writeOff_99 : decode cX6_writeOff 99 = .ok (.iload_n 2, 1) := by decide +kernel
theorem dX6_writeOff_100 : decode cX6_writeOff 100 = .ok (.iload 6, 2) := by decide +kernel
theorem dX6_writeOff_102 : decode cX6_writeOff 102 = .ok (.iadd, 1) := by decide +kernel
theorem dX6_writeOff_103 : decode cX6_writeOff 103 = .ok (.istore_n 2, 1) := by decide +kernel
theorem dX6_writeOff_104 : decode cX6_writeOff 104 = .ok (.aload_n 0, 1) := by decide +kernel
theorem dX6_writeOff_105 : decode cX6_writeOff 105 = .ok (.iload_n 3, 1) := by decide +kernel
theorem dX6_writeOff_106 : decode cX6_writeOff 106 = .ok (.invokevirtual 57, 3) := by decide +kernel
theorem dX6_writeOff_109 : decode cX6_writeOff 109 = .ok (.goto 6, 3) := by decide +kernel
theorem dX6_writeOff_112 : decode cX6_writeOff 112 = .ok (.iinc 3 1, 3) := by decide +kernel
theorem dX6_writeOff_115 : decode cX6_writeOff 115 = .ok (.goto (-111), 3) := by decide +kernel
theorem dX6_writeOff_118 : decode cX6_writeOff 118 = .ok (.iload_n 2, 1) := by decide +kernel
theorem dX6_writeOff_119 : decode cX6_writeOff 119 = .ok (.ireturn, 1) := by decide +kernel
theorem dX6_close_0 : decode cX6_close 0 = .ok (.aload_n 0, 1) := by decide +kernel
theorem dX6_close_1 : decode cX6_close 1 = .ok (.iconst 0, 1) := by decide +kernel
theorem dX6_close_2 : decode cX6_close 2 = .ok (.putfield 28, 3) := by decide +kernel
theorem dX6_close_5 : decode cX6_close 5 = .ok (.aload_n 0, 1) := by decide +kernel
theorem dX6_close_6 : decode cX6_close 6 = .ok (.iload_n 1, 1) := by decide +kernel
theorem dX6_close_7 : decode cX6_close 7 = .ok (.invokevirtual 123, 3) := by decide +kernel
theorem dX6_close_10 : decode cX6_close 10 = .ok (.ifCond .ne 9, 3) := by decide +kernel
theorem dX6_close_13 : decode cX6_close 13 = .ok (.aload_n 0, 1) := by decide +kernel
theorem dX6_close_14 : decode cX6_close 14 = .ok (.iconst 1, 1) := by decide +kernel
theorem dX6_close_15 : decode cX6_close 15 = .ok (.invokevirtual 114, 3) := by decide +kernel
theorem dX6_close_18 : decode cX6_close 18 = .ok (.ireturn, 1) := by decide +kernel
theorem dX6_close_19 : decode cX6_close 19 = .ok (.aload_n 0, 1) := by decide +kernel
theorem dX6_close_20 : decode cX6_close 20 = .ok (.iload_n 1, 1) := by decide +kernel
theorem dX6_close_21 : decode cX6_close 21 = .ok (.invokevirtual 43, 3) := by decide +kernel
theorem dX6_close_24 : decode cX6_close 24 = .ok (.ifCond .eq 11, 3) := by decide +kernel
theorem dX6_close_27 : decode cX6_close 27 = .ok (.aload_n 0, 1) := by decide +kernel
theorem dX6_close_28 : decode cX6_close 28 = .ok (.iload_n 1, 1) := by decide +kernel
theorem dX6_close_29 : decode cX6_close 29 = .ok (.invokevirtual 47, 3) := by decide +kernel
theorem dX6_close_32 : decode cX6_close 32 = .ok (.ifCond .eq 9, 3) := by decide +kernel
theorem dX6_close_35 : decode cX6_close 35 = .ok (.aload_n 0, 1) := by decide +kernel
theorem dX6_close_36 : decode cX6_close 36 = .ok (.iconst 2, 1) := by decide +kernel
theorem dX6_close_37 : decode cX6_close 37 = .ok (.invokevirtual 114, 3) := by decide +kernel
theorem dX6_close_40 : decode cX6_close 40 = .ok (.ireturn, 1) := by decide +kernel
theorem dX6_close_41 : decode cX6_close 41 = .ok (.aload_n 0, 1) := by decide +kernel
theorem dX6_close_42 : decode cX6_close 42 = .ok (.invokevirtual 117, 3) := by decide +kernel
theorem dX6_close_45 : decode cX6_close 45 = .ok (.aload_n 0, 1) := by decide +kernel
theorem dX6_close_46 : decode cX6_close 46 = .ok (.iload_n 1, 1) := by decide +kernel
theorem dX6_close_47 : decode cX6_close 47 = .ok (.aload_n 0, 1) := by decide +kernel
theorem dX6_close_48 : decode cX6_close 48 = .ok (.getfield 7, 3) := by decide +kernel
theorem dX6_close_51 : decode cX6_close 51 = .ok (.iload_n 1, 1) := by decide +kernel
theorem dX6_close_52 : decode cX6_close 52 = .ok (.invokestatic 39, 3) := by decide +kernel
theorem dX6_close_55 : decode cX6_close 55 = .ok (.iconst 2, 1) := by decide +kernel
theorem dX6_close_56 : decode cX6_close 56 = .ok (.iadd, 1) := by decide +kernel
theorem dX6_close_57 : decode cX6_close 57 = .ok (.iaload, 1) := by decide +kernel
theorem dX6_close_58 : decode cX6_close 58 = .ok (.invokevirtual 108, 3) := by decide +kernel
theorem dX6_close_61 : decode cX6_close 61 = .ok (.aload_n 0, 1) := by decide +kernel
theorem dX6_close_62 : decode cX6_close 62 = .ok (.iload_n 1, 1) := by decide +kernel
theorem dX6_close_63 : decode cX6_close 63 = .ok (.invokevirtual 138, 3) := by decide +kernel
theorem dX6_close_66 : decode cX6_close 66 = .ok (.istore_n 2, 1) := by decide +kernel
theorem dX6_close_67 : decode cX6_close 67 = .ok (.aload_n 0, 1) := by decide +kernel
theorem dX6_close_68 : decode cX6_close 68 = .ok (.getfield 7, 3) := by decide +kernel
theorem dX6_close_71 : decode cX6_close 71 = .ok (.iload_n 1, 1) := by decide +kernel
theorem dX6_close_72 : decode cX6_close 72 = .ok (.invokestatic 39, 3) := by decide +kernel
theorem dX6_close_75 : decode cX6_close 75 = .ok (.bipush 7, 2) := by decide +kernel
theorem dX6_close_77 : decode cX6_close 77 = .ok (.iadd, 1) := by decide +kernel
theorem dX6_close_78 : decode cX6_close 78 = .ok (.iconst 0, 1) := by decide +kernel
theorem dX6_close_79 : decode cX6_close 79 = .ok (.iastore, 1) := by decide +kernel
theorem dX6_close_80 : decode cX6_close 80 = .ok (.aload_n 0, 1) := by decide +kernel
theorem dX6_close_81 : decode cX6_close 81 = .ok (.getfield 7, 3) := by decide +kernel
theorem dX6_close_84 : decode cX6_close 84 = .ok (.iconst 2, 1) := by decide +kernel
theorem dX6_close_85 : decode cX6_close 85 = .ok (.dup2, 1) := by decide +kernel
theorem dX6_close_86 : decode cX6_close 86 = .ok (.iaload, 1) := by decide +kernel
theorem dX6_close_87 : decode cX6_close 87 = .ok (.iload_n 2, 1) := by decide +kernel
theorem dX6_close_88 : decode cX6_close 88 = .ok (.iadd, 1) := by decide +kernel
theorem dX6_close_89 : decode cX6_close 89 = .ok (.iastore, 1) := by decide +kernel
theorem dX6_close_90 : decode cX6_close 90 = .ok (.iload_n 2, 1) := by decide +kernel
theorem dX6_close_91 : decode cX6_close 91 = .ok (.ireturn, 1) := by decide +kernel
theorem dX6_append_0 : decode cX6_append 0 = .ok (.aload_n 0, 1) := by decide +kernel
theorem dX6_append_1 : decode cX6_append 1 = .ok (.iconst 0, 1) := by decide +kernel
theorem dX6_append_2 : decode cX6_append 2 = .ok (.putfield 28, 3) := by decide +kernel
theorem dX6_append_5 : decode cX6_append 5 = .ok (.iload_n 1, 1) := by decide +kernel
theorem dX6_append_6 : decode cX6_append 6 = .ok (.bipush 33, 2) := by decide +kernel
theorem dX6_append_8 : decode cX6_append 8 = .ok (.bipush 126, 2) := by decide +kernel
theorem dX6_append_10 : decode cX6_append 10 = .ok (.invokestatic 35, 3) := by decide +kernel
theorem dX6_append_13 : decode cX6_append 13 = .ok (.ifCond .ne 9, 3) := by decide +kernel
theorem dX6_append_16 : decode cX6_append 16 = .ok (.aload_n 0, 1) := by decide +kernel
theorem dX6_append_17 : decode cX6_append 17 = .ok (.iconst 1, 1) := by decide +kernel
theorem dX6_append_18 : decode cX6_append 18 = .ok (.invokevirtual 114, 3) := by decide +kernel
theorem dX6_append_21 : decode cX6_append 21 = .ok (.ireturn, 1) := by decide +kernel
theorem dX6_append_22 : decode cX6_append 22 = .ok (.aload_n 0, 1) := by decide +kernel
theorem dX6_append_23 : decode cX6_append 23 = .ok (.getfield 141, 3) := by decide +kernel
theorem dX6_append_26 : decode cX6_append 26 = .ok (.bipush 60, 2) := by decide +kernel
theorem dX6_append_28 : decode cX6_append 28 = .ok (.if_icmp .ne 9, 3) := by decide +kernel
theorem dX6_append_31 : decode cX6_append 31 = .ok (.aload_n 0, 1) := by decide +kernel
theorem dX6_append_32 : decode cX6_append 32 = .ok (.iconst 2, 1) := by decide +kernel
theorem dX6_append_33 : decode cX6_append 33 = .ok (.invokevirtual 114, 3) := by decide +kernel
theorem dX6_append_36 : decode cX6_append 36 = .ok (.ireturn, 1) := by decide +kernel
theorem dX6_append_37 : decode cX6_append 37 = .ok (.aload_n 0, 1) := by decide +kernel
theorem dX6_append_38 : decode cX6_append 38 = .ok (.getfield 19, 3) := by decide +kernel
theorem dX6_append_41 : decode cX6_append 41 = .ok (.aload_n 0, 1) := by decide +kernel
theorem dX6_append_42 : decode cX6_append 42 = .ok (.getfield 141, 3) := by decide +kernel
theorem dX6_append_45 : decode cX6_append 45 = .ok (.iload_n 1, 1) := by decide +kernel
theorem dX6_append_46 : decode cX6_append 46 = .ok (.iastore, 1) := by decide +kernel
theorem dX6_append_47 : decode cX6_append 47 = .ok (.aload_n 0, 1) := by decide +kernel
theorem dX6_append_48 : decode cX6_append 48 = .ok (.dup, 1) := by decide +kernel
theorem dX6_append_49 : decode cX6_append 49 = .ok (.getfield 141, 3) := by decide +kernel
theorem dX6_append_52 : decode cX6_append 52 = .ok (.iconst 1, 1) := by decide +kernel
theorem dX6_append_53 : decode cX6_append 53 = .ok (.iadd, 1) := by decide +kernel
theorem dX6_append_54 : decode cX6_append 54 = .ok (.putfield 141, 3) := by decide +kernel
theorem dX6_append_57 : decode cX6_append 57 = .ok (.aload_n 0, 1) := by decide +kernel
theorem dX6_append_58 : decode cX6_append 58 = .ok (.getfield 141, 3) := by decide +kernel
theorem dX6_append_61 : decode cX6_append 61 = .ok (.ireturn, 1) := by decide +kernel
theorem dX6_clearBuffer_0 : decode cX6_clearBuffer 0 = .ok (.aload_n 0, 1) := by decide +kernel
theorem dX6_clearBuffer_1 : decode cX6_clearBuffer 1 = .ok (.iconst 0, 1) := by decide +kernel
theorem dX6_clearBuffer_2 : decode cX6_clearBuffer 2 = .ok (.putfield 28, 3) := by decide +kernel
theorem dX6_clearBuffer_5 : decode cX6_clearBuffer 5 = .ok (.aload_n 0, 1) := by decide +kernel
theorem dX6_clearBuffer_6 : decode cX6_clearBuffer 6 = .ok (.getfield 141, 3) := by decide +kernel
theorem dX6_clearBuffer_9 : decode cX6_clearBuffer 9 = .ok (.istore_n 1, 1) := by decide +kernel
theorem dX6_clearBuffer_10 : decode cX6_clearBuffer 10 = .ok (.aload_n 0, 1) := by decide +kernel
theorem dX6_clearBuffer_11 : decode cX6_clearBuffer 11 = .ok (.iconst 0, 1) := by decide +kernel
theorem dX6_clearBuffer_12 : decode cX6_clearBuffer 12 = .ok (.putfield 141, 3) := by decide +kernel
theorem dX6_clearBuffer_15 : decode cX6_clearBuffer 15 = .ok (.iload_n 1, 1) := by decide +kernel
theorem dX6_clearBuffer_16 : decode cX6_clearBuffer 16 = .ok (.ireturn, 1) := by decide +kernel
theorem dX6_next_0 : decode cX6_next 0 = .ok (.aload_n 0, 1) := by decide +kernel
theorem dX6_next_1 : decode cX6_next 1 = .ok (.getfield 144, 3) := by decide +kernel
theorem dX6_next_4 : decode cX6_next 4 = .ok (.aload_n 0, 1) := by decide +kernel
theorem dX6_next_5 : decode cX6_next 5 = .ok (.getfield 141, 3) := by decide +kernel
theorem dX6_next_8 : decode cX6_next 8 = .ok (.if_icmp .ge 15, 3) := by decide +kernel
theorem dX6_next_11 : decode cX6_next 11 = .ok (.aload_n 0, 1) := by decide +kernel
theorem dX6_next_12 : decode cX6_next 12 = .ok (.getfield 19, 3) := by decide +kernel
theorem dX6_next_15 : decode cX6_next 15 = .ok (.aload_n 0, 1) := by decide +kernel
theorem dX6_next_16 : decode cX6_next 16 = .ok (.getfield 144, 3) := by decide +kernel
theorem dX6_next_19 : decode cX6_next 19 = .ok (.iaload, 1) := by decide +kernel
theorem dX6_next_20 : decode cX6_next 20 = .ok (.goto 4, 3) := by decide +kernel
theorem dX6_next_23 : decode cX6_next 23 = .ok (.iconst 0, 1) := by decide +kernel
theorem dX6_next_24 : decode cX6_next 24 = .ok (.ireturn, 1) := by decide +kernel
theorem dX6_takes_0 : decode cX6_takes 0 = .ok (.aload_n 0, 1) := by decide +kernel
theorem dX6_takes_1 : decode cX6_takes 1 = .ok (.invokevirtual 147, 3) := by decide +kernel
theorem dX6_takes_4 : decode cX6_takes 4 = .ok (.iload_n 1, 1) := by decide +kernel
theorem dX6_takes_5 : decode cX6_takes 5 = .ok (.if_icmp .ne 7, 3) := by decide +kernel
theorem dX6_takes_8 : decode cX6_takes 8 = .ok (.iconst 1, 1) := by decide +kernel
theorem dX6_takes_9 : decode cX6_takes 9 = .ok (.goto 4, 3) := by decide +kernel
theorem dX6_takes_12 : decode cX6_takes 12 = .ok (.iconst 0, 1) := by decide +kernel
theorem dX6_takes_13 : decode cX6_takes 13 = .ok (.istore_n 2, 1) := by decide +kernel
theorem dX6_takes_14 : decode cX6_takes 14 = .ok (.aload_n 0, 1) := by decide +kernel
theorem dX6_takes_15 : decode cX6_takes 15 = .ok (.dup, 1) := by decide +kernel
theorem dX6_takes_16 : decode cX6_takes 16 = .ok (.getfield 144, 3) := by decide +kernel
theorem dX6_takes_19 : decode cX6_takes 19 = .ok (.iload_n 2, 1) := by decide +kernel
theorem dX6_takes_20 : decode cX6_takes 20 = .ok (.ifCond .eq 7, 3) := by decide +kernel
theorem dX6_takes_23 : decode cX6_takes 23 = .ok (.iconst 1, 1) := by decide +kernel
theorem dX6_takes_24 : decode cX6_takes 24 = .ok (.goto 4, 3) := by decide +kernel
theorem dX6_takes_27 : decode cX6_takes 27 = .ok (.iconst 0, 1) := by decide +kernel
theorem dX6_takes_28 : decode cX6_takes 28 = .ok (.iadd, 1) := by decide +kernel
theorem dX6_takes_29 : decode cX6_takes 29 = .ok (.putfield 144, 3) := by decide +kernel
theorem dX6_takes_32 : decode cX6_takes 32 = .ok (.iload_n 2, 1) := by decide +kernel
theorem dX6_takes_33 : decode cX6_takes 33 = .ok (.ireturn, 1) := by decide +kernel
theorem dX6_number_0 : decode cX6_number 0 = .ok (.iconst (-1), 1) := by decide +kernel
theorem dX6_number_1 : decode cX6_number 1 = .ok (.istore_n 3, 1) := by decide +kernel
theorem dX6_number_2 : decode cX6_number 2 = .ok (.iconst 1, 1) := by decide +kernel
theorem dX6_number_3 : decode cX6_number 3 = .ok (.istore 4, 2) := by decide +kernel
theorem dX6_number_5 : decode cX6_number 5 = .ok (.iload 4, 2) := by decide +kernel
theorem dX6_number_7 : decode cX6_number 7 = .ok (.ifCond .eq 97, 3) := by decide +kernel
theorem dX6_number_10 : decode cX6_number 10 = .ok (.aload_n 0, 1) := by decide +kernel
theorem dX6_number_11 : decode cX6_number 11 = .ok (.invokevirtual 147, 3) := by decide +kernel
theorem dX6_number_14 : decode cX6_number 14 = .ok (.bipush 48, 2) := by decide +kernel
theorem dX6_number_16 : decode cX6_number 16 = .ok (.isub, 1) := by decide +kernel
theorem dX6_number_17 : decode cX6_number 17 = .ok (.istore 5, 2) := by decide +kernel
theorem dX6_number_19 : decode cX6_number 19 = .ok (.iload_n 3, 1) := by decide +kernel
theorem dX6_number_20 : decode cX6_number 20 = .ok (.iconst (-1), 1) := by decide +kernel
theorem dX6_number_21 : decode cX6_number 21 = .ok (.if_icmp .ne 8, 3) := by decide +kernel
theorem dX6_number_24 : decode cX6_number 24 = .ok (.iload 5, 2) := by decide +kernel
theorem dX6_number_26 : decode cX6_number 26 = .ok (.goto 10, 3) := by decide +kernel
theorem dX6_number_29 : decode cX6_number 29 = .ok (.bipush 10, 2) := by decide +kernel
theorem dX6_number_31 : decode cX6_number 31 = .ok (.iload_n 3, 1) := by decide +kernel
theorem dX6_number_32 : decode cX6_number 32 = .ok (.imul, 1) := by decide +kernel
theorem dX6_number_33 : decode cX6_number 33 = .ok (.iload 5, 2) := by decide +kernel
theorem dX6_number_35 : decode cX6_number 35 = .ok (.iadd, 1) := by decide +kernel
theorem dX6_number_36 : decode cX6_number 36 = .ok (.istore 6, 2) := by decide +kernel
theorem dX6_number_38 : decode cX6_number 38 = .ok (.iload 5, 2) := by decide +kernel
theorem dX6_number_40 : decode cX6_number 40 = .ok (.iconst 0, 1) := by decide +kernel
theorem dX6_number_41 : decode cX6_number 41 = .ok (.bipush 9, 2) := by decide +kernel
theorem dX6_number_43 : decode cX6_number 43 = .ok (.invokestatic 35, 3) := by decide +kernel
theorem dX6_number_46 : decode cX6_number 46 = .ok (.ifCond .eq 21, 3) := by decide +kernel
theorem dX6_number_49 : decode cX6_number 49 = .ok (.iload_n 3, 1) := by decide +kernel
theorem dX6_number_50 : decode cX6_number 50 = .ok (.ifCond .eq 17, 3) := by decide +kernel
theorem dX6_number_53 : decode cX6_number 53 = .ok (.iload 6, 2) := by decide +kernel
theorem dX6_number_55 : decode cX6_number 55 = .ok (.iload_n 1, 1) := by decide +kernel
theorem dX6_number_56 : decode cX6_number 56 = .ok (.iload_n 2, 1) := by decide +kernel
theorem dX6_number_57 : decode cX6_number 57 = .ok (.invokestatic 35, 3) := by decide +kernel
theorem dX6_number_60 : decode cX6_number 60 = .ok (.ifCond .eq 7, 3) := by decide +kernel
theorem dX6_number_63 : decode cX6_number 63 = .ok (.iconst 1, 1) := by decide +kernel
theorem dX6_number_64 : decode cX6_number 64 = .ok (.goto 4, 3) := by decide +kernel
theorem dX6_number_67 : decode cX6_number 67 = .ok (.iconst 0, 1) := by decide +kernel
theorem dX6_number_68 : decode cX6_number 68 = .ok (.istore 4, 2) := by decide +kernel
theorem dX6_number_70 : decode cX6_number 70 = .ok (.iload 4, 2) := by decide +kernel
theorem dX6_number_72 : decode cX6_number 72 = .ok (.ifCond .eq 8, 3) := by decide +kernel
theorem dX6_number_75 : decode cX6_number 75 = .ok (.iload 6, 2) := by decide +kernel
theorem dX6_number_77 : decode cX6_number 77 = .ok (.goto 4, 3) := by decide +kernel
theorem dX6_number_80 : decode cX6_number 80 = .ok (.iload_n 3, 1) := by decide +kernel
theorem dX6_number_81 : decode cX6_number 81 = .ok (.istore_n 3, 1) := by decide +kernel
theorem dX6_number_82 : decode cX6_number 82 = .ok (.aload_n 0, 1) := by decide +kernel
theorem dX6_number_83 : decode cX6_number 83 = .ok (.dup, 1) := by decide +kernel
theorem dX6_number_84 : decode cX6_number 84 = .ok (.getfield 144, 3) := by decide +kernel
theorem dX6_number_87 : decode cX6_number 87 = .ok (.iload 4, 2) := by decide +kernel
theorem dX6_number_89 : decode cX6_number 89 = .ok (.ifCond .eq 7, 3) := by decide +kernel
theorem dX6_number_92 : decode cX6_number 92 = .ok (.iconst 1, 1) := by decide +kernel
theorem dX6_number_93 : decode cX6_number 93 = .ok (.goto 4, 3) := by decide +kernel
theorem dX6_number_96 : decode cX6_number 96 = .ok (.iconst 0, 1) := by decide +kernel
theorem dX6_number_97 : decode cX6_number 97 = .ok (.iadd, 1) := by decide +kernel
theorem dX6_number_98 : decode cX6_number 98 = .ok (.putfield 144, 3) := by decide +kernel
theorem dX6_number_101 : decode cX6_number 101 = .ok (.goto (-96), 3) := by decide +kernel
theorem dX6_number_104 : decode cX6_number 104 = .ok (.iload_n 3, 1) := by decide +kernel
theorem dX6_number_105 : decode cX6_number 105 = .ok (.ireturn, 1) := by decide +kernel
theorem dX6_tasks_0 : decode cX6_tasks 0 = .ok (.aload_n 0, 1) := by decide +kernel
theorem dX6_tasks_1 : decode cX6_tasks 1 = .ok (.getfield 25, 3) := by decide +kernel
theorem dX6_tasks_4 : decode cX6_tasks 4 = .ok (.iload_n 1, 1) := by decide +kernel
theorem dX6_tasks_5 : decode cX6_tasks 5 = .ok (.iconst 2, 1) := by decide +kernel
theorem dX6_tasks_6 : decode cX6_tasks 6 = .ok (.iadd, 1) := by decide +kernel
theorem dX6_tasks_7 : decode cX6_tasks 7 = .ok (.iconst 0, 1) := by decide +kernel
theorem dX6_tasks_8 : decode cX6_tasks 8 = .ok (.iastore, 1) := by decide +kernel
theorem dX6_tasks_9 : decode cX6_tasks 9 = .ok (.iconst 1, 1) := by decide +kernel
theorem dX6_tasks_10 : decode cX6_tasks 10 = .ok (.istore_n 2, 1) := by decide +kernel
theorem dX6_tasks_11 : decode cX6_tasks 11 = .ok (.iconst 1, 1) := by decide +kernel
theorem dX6_tasks_12 : decode cX6_tasks 12 = .ok (.istore_n 3, 1) := by decide +kernel
theorem dX6_tasks_13 : decode cX6_tasks 13 = .ok (.iload_n 2, 1) := by decide +kernel
theorem dX6_tasks_14 : decode cX6_tasks 14 = .ok (.ifCond .eq 94, 3) := by decide +kernel
theorem dX6_tasks_17 : decode cX6_tasks 17 = .ok (.aload_n 0, 1) := by decide +kernel
theorem dX6_tasks_18 : decode cX6_tasks 18 = .ok (.iconst 1, 1) := by decide +kernel
theorem dX6_tasks_19 : decode cX6_tasks 19 = .ok (.bipush 60, 2) := by decide +kernel
theorem dX6_tasks_21 : decode cX6_tasks 21 = .ok (.invokevirtual 151, 3) := by decide +kernel
theorem dX6_tasks_24 : decode cX6_tasks 24 = .ok (.istore 4, 2) := by decide +kernel
theorem dX6_tasks_26 : decode cX6_tasks 26 = .ok (.iload 4, 2) := by decide +kernel
theorem dX6_tasks_28 : decode cX6_tasks 28 = .ok (.iconst (-1), 1) := by decide +kernel
theorem dX6_tasks_29 : decode cX6_tasks 29 = .ok (.if_icmp .eq 7, 3) := by decide +kernel
theorem dX6_tasks_32 : decode cX6_tasks 32 = .ok (.iconst 1, 1) := by decide +kernel
theorem dX6_tasks_33 : decode cX6_tasks 33 = .ok (.goto 4, 3) := by decide +kernel
theorem dX6_tasks_36 : decode cX6_tasks 36 = .ok (.iconst 0, 1) := by decide +kernel
theorem dX6_tasks_37 : decode cX6_tasks 37 = .ok (.istore_n 3, 1) := by decide +kernel
theorem dX6_tasks_38 : decode cX6_tasks 38 = .ok (.iload_n 3, 1) := by decide +kernel
theorem dX6_tasks_39 : decode cX6_tasks 39 = .ok (.ifCond .eq 34, 3) := by decide +kernel
theorem dX6_tasks_42 : decode cX6_tasks 42 = .ok (.aload_n 0, 1) := by decide +kernel
theorem dX6_tasks_43 : decode cX6_tasks 43 = .ok (.getfield 25, 3) := by decide +kernel
theorem dX6_tasks_46 : decode cX6_tasks 46 = .ok (.iload_n 1, 1) := by decide +kernel
theorem dX6_tasks_47 : decode cX6_tasks 47 = .ok (.iconst 3, 1) := by decide +kernel
theorem dX6_tasks_48 : decode cX6_tasks 48 = .ok (.iadd, 1) := by decide +kernel
theorem dX6_tasks_49 : decode cX6_tasks 49 = .ok (.aload_n 0, 1) := by decide +kernel
theorem dX6_tasks_50 : decode cX6_tasks 50 = .ok (.getfield 25, 3) := by decide +kernel
theorem dX6_tasks_53 : decode cX6_tasks 53 = .ok (.iload_n 1, 1) := by decide +kernel
theorem dX6_tasks_54 : decode cX6_tasks 54 = .ok (.iconst 2, 1) := by decide +kernel
theorem dX6_tasks_55 : decode cX6_tasks 55 = .ok (.iadd, 1) := by decide +kernel
theorem dX6_tasks_56 : decode cX6_tasks 56 = .ok (.iaload, 1) := by decide +kernel
theorem dX6_tasks_57 : decode cX6_tasks 57 = .ok (.iadd, 1) := by decide +kernel
theorem dX6_tasks_58 : decode cX6_tasks 58 = .ok (.iload 4, 2) := by decide +kernel
theorem dX6_tasks_60 : decode cX6_tasks 60 = .ok (.iastore, 1) := by decide +kernel
theorem dX6_tasks_61 : decode cX6_tasks 61 = .ok (.aload_n 0, 1) := by decide +kernel
theorem dX6_tasks_62 : decode cX6_tasks 62 = .ok (.getfield 25, 3) := by decide +kernel
theorem dX6_tasks_65 : decode cX6_tasks 65 = .ok (.iload_n 1, 1) := by decide +kernel
theorem dX6_tasks_66 : decode cX6_tasks 66 = .ok (.iconst 2, 1) := by decide +kernel
theorem dX6_tasks_67 : decode cX6_tasks 67 = .ok (.iadd, 1) := by decide +kernel
theorem dX6_tasks_68 : decode cX6_tasks 68 = .ok (.dup2, 1) := by decide +kernel
theorem dX6_tasks_69 : decode cX6_tasks 69 = .ok (.iaload, 1) := by decide +kernel
theorem dX6_tasks_70 : decode cX6_tasks 70 = .ok (.iconst 1, 1) := by decide +kernel
theorem dX6_tasks_71 : decode cX6_tasks 71 = .ok (.iadd, 1) := by decide +kernel
theorem dX6_tasks_72 : decode cX6_tasks 72 = .ok (.iastore, 1) := by decide +kernel
theorem dX6_tasks_73 : decode cX6_tasks 73 = .ok (.iload_n 3, 1) := by decide +kernel
theorem dX6_tasks_74 : decode cX6_tasks 74 = .ok (.ifCond .eq 29, 3) := by decide +kernel
theorem dX6_tasks_77 : decode cX6_tasks 77 = .ok (.aload_n 0, 1) := by decide +kernel
theorem dX6_tasks_78 : decode cX6_tasks 78 = .ok (.getfield 25, 3) := by decide +kernel
theorem dX6_tasks_81 : decode cX6_tasks 81 = .ok (.iload_n 1, 1) := by decide +kernel
theorem dX6_tasks_82 : decode cX6_tasks 82 = .ok (.iconst 2, 1) := by decide +kernel
theorem dX6_tasks_83 : decode cX6_tasks 83 = .ok (.iadd, 1) := by decide +kernel
theorem dX6_tasks_84 : decode cX6_tasks 84 = .ok (.iaload, 1) := by decide +kernel
theorem dX6_tasks_85 : decode cX6_tasks 85 = .ok (.bipush 8, 2) := by decide +kernel
theorem dX6_tasks_87 : decode cX6_tasks 87 = .ok (.if_icmp .ge 16, 3) := by decide +kernel
theorem dX6_tasks_90 : decode cX6_tasks 90 = .ok (.aload_n 0, 1) := by decide +kernel
theorem dX6_tasks_91 : decode cX6_tasks 91 = .ok (.bipush 43, 2) := by decide +kernel
theorem dX6_tasks_93 : decode cX6_tasks 93 = .ok (.invokevirtual 154, 3) := by decide +kernel
theorem dX6_tasks_96 : decode cX6_tasks 96 = .ok (.ifCond .eq 7, 3) := by decide +kernel
theorem dX6_tasks_99 : decode cX6_tasks 99 = .ok (.iconst 1, 1) := by decide +kernel
theorem dX6_tasks_100 : decode cX6_tasks 100 = .ok (.goto 4, 3) := by decide +kernel
theorem dX6_tasks_103 : decode cX6_tasks 103 = .ok (.iconst 0, 1) := by decide +kernel
theorem dX6_tasks_104 : decode cX6_tasks 104 = .ok (.istore_n 2, 1) := by decide +kernel
theorem dX6_tasks_105 : decode cX6_tasks 105 = .ok (.goto (-92), 3) := by decide +kernel
theorem dX6_tasks_108 : decode cX6_tasks 108 = .ok (.iload_n 3, 1) := by decide +kernel
theorem dX6_tasks_109 : decode cX6_tasks 109 = .ok (.ireturn, 1) := by decide +kernel
theorem dX6_readProject_0 : decode cX6_readProject 0 = .ok (.bipush 11, 2) := by decide +kernel
theorem dX6_readProject_2 : decode cX6_readProject 2 = .ok (.aload_n 0, 1) := by decide +kernel
theorem dX6_readProject_3 : decode cX6_readProject 3 = .ok (.getfield 157, 3) := by decide +kernel
theorem dX6_readProject_6 : decode cX6_readProject 6 = .ok (.bipush 9, 2) := by decide +kernel
theorem dX6_readProject_8 : decode cX6_readProject 8 = .ok (.if_icmp .ge 10, 3) := by decide +kernel
theorem dX6_readProject_11 : decode cX6_readProject 11 = .ok (.aload_n 0, 1) := by decide +kernel
theorem dX6_readProject_12 : decode cX6_readProject 12 = .ok (.getfield 157, 3) := by decide +kernel
theorem dX6_readProject_15 : decode cX6_readProject 15 = .ok (.goto 5, 3) := by decide +kernel
theorem dX6_readProject_18 : decode cX6_readProject 18 = .ok (.bipush 9, 2) := by decide +kernel
theorem dX6_readProject_20 : decode cX6_readProject 20 = .ok (.imul, 1) := by decide +kernel
theorem dX6_readProject_21 : decode cX6_readProject 21 = .ok (.istore_n 1, 1) := by decide +kernel
theorem dX6_readProject_22 : decode cX6_readProject 22 = .ok (.aload_n 0, 1) := by decide +kernel
theorem dX6_readProject_23 : decode cX6_readProject 23 = .ok (.getfield 25, 3) := by decide +kernel
theorem dX6_readProject_26 : decode cX6_readProject 26 = .ok (.iload_n 1, 1) := by decide +kernel
theorem dX6_readProject_27 : decode cX6_readProject 27 = .ok (.aload_n 0, 1) := by decide +kernel
theorem dX6_readProject_28 : decode cX6_readProject 28 = .ok (.iconst 1, 1) := by decide +kernel
theorem dX6_readProject_29 : decode cX6_readProject 29 = .ok (.bipush 9, 2) := by decide +kernel
theorem dX6_readProject_31 : decode cX6_readProject 31 = .ok (.invokevirtual 151, 3) := by decide +kernel
theorem dX6_readProject_34 : decode cX6_readProject 34 = .ok (.iastore, 1) := by decide +kernel
theorem dX6_readProject_35 : decode cX6_readProject 35 = .ok (.aload_n 0, 1) := by decide +kernel
theorem dX6_readProject_36 : decode cX6_readProject 36 = .ok (.getfield 25, 3) := by decide +kernel
theorem dX6_readProject_39 : decode cX6_readProject 39 = .ok (.iload_n 1, 1) := by decide +kernel
theorem dX6_readProject_40 : decode cX6_readProject 40 = .ok (.iaload, 1) := by decide +kernel
theorem dX6_readProject_41 : decode cX6_readProject 41 = .ok (.iconst (-1), 1) := by decide +kernel
theorem dX6_readProject_42 : decode cX6_readProject 42 = .ok (.if_icmp .eq 12, 3) := by decide +kernel
theorem dX6_readProject_45 : decode cX6_readProject 45 = .ok (.aload_n 0, 1) := by decide +kernel
theorem dX6_readProject_46 : decode cX6_readProject 46 = .ok (.bipush 58, 2) := by decide +kernel
theorem dX6_readProject_48 : decode cX6_readProject 48 = .ok (.invokevirtual 154, 3) := by decide +kernel
theorem dX6_readProject_51 : decode cX6_readProject 51 = .ok (.ifCond .ne 5, 3) := by decide +kernel
theorem dX6_readProject_54 : decode cX6_readProject 54 = .ok (.iconst 0, 1) := by decide +kernel
theorem dX6_readProject_55 : decode cX6_readProject 55 = .ok (.ireturn, 1) := by decide +kernel
theorem dX6_readProject_56 : decode cX6_readProject 56 = .ok (.aload_n 0, 1) := by decide +kernel
theorem dX6_readProject_57 : decode cX6_readProject 57 = .ok (.getfield 25, 3) := by decide +kernel
theorem dX6_readProject_60 : decode cX6_readProject 60 = .ok (.iload_n 1, 1) := by decide +kernel
theorem dX6_readProject_61 : decode cX6_readProject 61 = .ok (.iconst 1, 1) := by decide +kernel
theorem dX6_readProject_62 : decode cX6_readProject 62 = .ok (.iadd, 1) := by decide +kernel
theorem dX6_readProject_63 : decode cX6_readProject 63 = .ok (.aload_n 0, 1) := by decide +kernel
theorem dX6_readProject_64 : decode cX6_readProject 64 = .ok (.iconst 0, 1) := by decide +kernel
theorem dX6_readProject_65 : decode cX6_readProject 65 = .ok (.bipush 99, 2) := by decide +kernel
theorem dX6_readProject_67 : decode cX6_readProject 67 = .ok (.invokevirtual 151, 3) := by decide +kernel
theorem dX6_readProject_70 : decode cX6_readProject 70 = .ok (.iastore, 1) := by decide +kernel
theorem dX6_readProject_71 : decode cX6_readProject 71 = .ok (.aload_n 0, 1) := by decide +kernel
theorem dX6_readProject_72 : decode cX6_readProject 72 = .ok (.getfield 25, 3) := by decide +kernel
theorem dX6_readProject_75 : decode cX6_readProject 75 = .ok (.iload_n 1, 1) := by decide +kernel
theorem dX6_readProject_76 : decode cX6_readProject 76 = .ok (.iconst 1, 1) := by decide +kernel
theorem dX6_readProject_77 : decode cX6_readProject 77 = .ok (.iadd, 1) := by decide +kernel
theorem dX6_readProject_78 : decode cX6_readProject 78 = .ok (.iaload, 1) := by decide +kernel
theorem dX6_readProject_79 : decode cX6_readProject 79 = .ok (.iconst (-1), 1) := by decide +kernel
theorem dX6_readProject_80 : decode cX6_readProject 80 = .ok (.if_icmp .eq 12, 3) := by decide +kernel
theorem dX6_readProject_83 : decode cX6_readProject 83 = .ok (.aload_n 0, 1) := by decide +kernel
theorem dX6_readProject_84 : decode cX6_readProject 84 = .ok (.bipush 58, 2) := by decide +kernel
theorem dX6_readProject_86 : decode cX6_readProject 86 = .ok (.invokevirtual 154, 3) := by decide +kernel
theorem dX6_readProject_89 : decode cX6_readProject 89 = .ok (.ifCond .ne 5, 3) := by decide +kernel
theorem dX6_readProject_92 : decode cX6_readProject 92 = .ok (.iconst 0, 1) := by decide +kernel
theorem dX6_readProject_93 : decode cX6_readProject 93 = .ok (.ireturn, 1) := by decide +kernel
theorem dX6_readProject_94 : decode cX6_readProject 94 = .ok (.aload_n 0, 1) := by decide +kernel
theorem dX6_readProject_95 : decode cX6_readProject 95 = .ok (.dup, 1) := by decide +kernel
theorem dX6_readProject_96 : decode cX6_readProject 96 = .ok (.getfield 157, 3) := by decide +kernel
theorem dX6_readProject_99 : decode cX6_readProject 99 = .ok (.iconst 1, 1) := by decide +kernel
theorem dX6_readProject_100 : decode cX6_readProject 100 = .ok (.iadd, 1) := by decide +kernel
theorem dX6_readProject_101 : decode cX6_readProject 101 = .ok (.putfield 157, 3) := by decide +kernel
theorem dX6_readProject_104 : decode cX6_readProject 104 = .ok (.aload_n 0, 1) := by decide +kernel
theorem dX6_readProject_105 : decode cX6_readProject 105 = .ok (.iload_n 1, 1) := by decide +kernel
theorem dX6_readProject_106 : decode cX6_readProject 106 = .ok (.invokevirtual 160, 3) := by decide +kernel
theorem dX6_readProject_109 : decode cX6_readProject 109 = .ok (.ireturn, 1) := by decide +kernel
theorem dX6_isPlan_0 : decode cX6_isPlan 0 = .ok (.aload_n 0, 1) := by decide +kernel
theorem dX6_isPlan_1 : decode cX6_isPlan 1 = .ok (.iconst 0, 1) := by decide +kernel
theorem dX6_isPlan_2 : decode cX6_isPlan 2 = .ok (.putfield 144, 3) := by decide +kernel
theorem dX6_isPlan_5 : decode cX6_isPlan 5 = .ok (.aload_n 0, 1) := by decide +kernel
theorem dX6_isPlan_6 : decode cX6_isPlan 6 = .ok (.iconst 0, 1) := by decide +kernel
theorem dX6_isPlan_7 : decode cX6_isPlan 7 = .ok (.putfield 157, 3) := by decide +kernel
theorem dX6_isPlan_10 : decode cX6_isPlan 10 = .ok (.aload_n 0, 1) := by decide +kernel
theorem dX6_isPlan_11 : decode cX6_isPlan 11 = .ok (.invokevirtual 163, 3) := by decide +kernel
theorem dX6_isPlan_14 : decode cX6_isPlan 14 = .ok (.istore_n 1, 1) := by decide +kernel
theorem dX6_isPlan_15 : decode cX6_isPlan 15 = .ok (.iload_n 1, 1) := by decide +kernel
theorem dX6_isPlan_16 : decode cX6_isPlan 16 = .ok (.ifCond .eq 20, 3) := by decide +kernel
theorem dX6_isPlan_19 : decode cX6_isPlan 19 = .ok (.aload_n 0, 1) := by decide +kernel
theorem dX6_isPlan_20 : decode cX6_isPlan 20 = .ok (.bipush 59, 2) := by decide +kernel
theorem dX6_isPlan_22 : decode cX6_isPlan 22 = .ok (.invokevirtual 154, 3) := by decide +kernel
theorem dX6_isPlan_25 : decode cX6_isPlan 25 = .ok (.ifCond .eq 11, 3) := by decide +kernel
theorem dX6_isPlan_28 : decode cX6_isPlan 28 = .ok (.aload_n 0, 1) := by decide +kernel
theorem dX6_isPlan_29 : decode cX6_isPlan 29 = .ok (.invokevirtual 163, 3) := by decide +kernel
theorem dX6_isPlan_32 : decode cX6_isPlan 32 = .ok (.istore_n 1, 1) := by decide +kernel
theorem dX6_isPlan_33 : decode cX6_isPlan 33 = .ok (.goto (-18), 3) := by decide +kernel
theorem dX6_isPlan_36 : decode cX6_isPlan 36 = .ok (.iload_n 1, 1) := by decide +kernel
theorem dX6_isPlan_37 : decode cX6_isPlan 37 = .ok (.ifCond .eq 18, 3) := by decide +kernel
theorem dX6_isPlan_40 : decode cX6_isPlan 40 = .ok (.aload_n 0, 1) := by decide +kernel
theorem dX6_isPlan_41 : decode cX6_isPlan 41 = .ok (.getfield 144, 3) := by decide +kernel
theorem dX6_isPlan_44 : decode cX6_isPlan 44 = .ok (.aload_n 0, 1) := by decide +kernel
theorem dX6_isPlan_45 : decode cX6_isPlan 45 = .ok (.getfield 141, 3) := by decide +kernel
theorem dX6_isPlan_48 : decode cX6_isPlan 48 = .ok (.if_icmp .ne 7, 3) := by decide +kernel
theorem dX6_isPlan_51 : decode cX6_isPlan 51 = .ok (.iconst 1, 1) := by decide +kernel
theorem dX6_isPlan_52 : decode cX6_isPlan 52 = .ok (.goto 4, 3) := by decide +kernel
theorem dX6_isPlan_55 : decode cX6_isPlan 55 = .ok (.iconst 0, 1) := by decide +kernel
theorem dX6_isPlan_56 : decode cX6_isPlan 56 = .ok (.ireturn, 1) := by decide +kernel
theorem dX6_firstError_0 : decode cX6_firstError 0 = .ok (.aload_n 0, 1) := by decide +kernel
theorem dX6_firstError_1 : decode cX6_firstError 1 = .ok (.iconst 0, 1) := by decide +kernel
theorem dX6_firstError_2 : decode cX6_firstError 2 = .ok (.putfield 28, 3) := by decide +kernel
theorem dX6_firstError_5 : decode cX6_firstError 5 = .ok (.aload_n 0, 1) := by decide +kernel
theorem dX6_firstError_6 : decode cX6_firstError 6 = .ok (.invokevirtual 167, 3) := by decide +kernel
theorem dX6_firstError_9 : decode cX6_firstError 9 = .ok (.ifCond .eq 10, 3) := by decide +kernel
theorem dX6_firstError_12 : decode cX6_firstError 12 = .ok (.aload_n 0, 1) := by decide +kernel
theorem dX6_firstError_13 : decode cX6_firstError 13 = .ok (.getfield 141, 3) := by decide +kernel
theorem dX6_firstError_16 : decode cX6_firstError 16 = .ok (.goto 7, 3) := by decide +kernel
theorem dX6_firstError_19 : decode cX6_firstError 19 = .ok (.aload_n 0, 1) := by decide +kernel
theorem dX6_firstError_20 : decode cX6_firstError 20 = .ok (.getfield 144, 3) := by decide +kernel
theorem dX6_firstError_23 : decode cX6_firstError 23 = .ok (.ireturn, 1) := by decide +kernel
theorem dX6_openAll_0 : decode cX6_openAll 0 = .ok (.aload_n 0, 1) := by decide +kernel
theorem dX6_openAll_1 : decode cX6_openAll 1 = .ok (.iconst 0, 1) := by decide +kernel
theorem dX6_openAll_2 : decode cX6_openAll 2 = .ok (.putfield 28, 3) := by decide +kernel
theorem dX6_openAll_5 : decode cX6_openAll 5 = .ok (.aload_n 0, 1) := by decide +kernel
theorem dX6_openAll_6 : decode cX6_openAll 6 = .ok (.invokevirtual 167, 3) := by decide +kernel
theorem dX6_openAll_9 : decode cX6_openAll 9 = .ok (.ifCond .ne 9, 3) := by decide +kernel
theorem dX6_openAll_12 : decode cX6_openAll 12 = .ok (.aload_n 0, 1) := by decide +kernel
theorem dX6_openAll_13 : decode cX6_openAll 13 = .ok (.iconst 1, 1) := by decide +kernel
theorem dX6_openAll_14 : decode cX6_openAll 14 = .ok (.invokevirtual 114, 3) := by decide +kernel
theorem dX6_openAll_17 : decode cX6_openAll 17 = .ok (.ireturn, 1) := by decide +kernel
theorem dX6_openAll_18 : decode cX6_openAll 18 = .ok (.aload_n 0, 1) := by decide +kernel
theorem dX6_openAll_19 : decode cX6_openAll 19 = .ok (.getfield 7, 3) := by decide +kernel
theorem dX6_openAll_22 : decode cX6_openAll 22 = .ok (.iconst 0, 1) := by decide +kernel
theorem dX6_openAll_23 : decode cX6_openAll 23 = .ok (.iaload, 1) := by decide +kernel
theorem dX6_openAll_24 : decode cX6_openAll 24 = .ok (.aload_n 0, 1) := by decide +kernel
theorem dX6_openAll_25 : decode cX6_openAll 25 = .ok (.getfield 157, 3) := by decide +kernel
theorem dX6_openAll_28 : decode cX6_openAll 28 = .ok (.iadd, 1) := by decide +kernel
theorem dX6_openAll_29 : decode cX6_openAll 29 = .ok (.bipush 6, 2) := by decide +kernel
theorem dX6_openAll_31 : decode cX6_openAll 31 = .ok (.if_icmp .le 9, 3) := by decide +kernel
theorem dX6_openAll_34 : decode cX6_openAll 34 = .ok (.aload_n 0, 1) := by decide +kernel
theorem dX6_openAll_35 : decode cX6_openAll 35 = .ok (.iconst 2, 1) := by decide +kernel
theorem dX6_openAll_36 : decode cX6_openAll 36 = .ok (.invokevirtual 114, 3) := by decide +kernel
theorem dX6_openAll_39 : decode cX6_openAll 39 = .ok (.ireturn, 1) := by decide +kernel
theorem dX6_openAll_40 : decode cX6_openAll 40 = .ok (.aload_n 0, 1) := by decide +kernel
theorem dX6_openAll_41 : decode cX6_openAll 41 = .ok (.invokevirtual 117, 3) := by decide +kernel
theorem dX6_openAll_44 : decode cX6_openAll 44 = .ok (.iconst 0, 1) := by decide +kernel
theorem dX6_openAll_45 : decode cX6_openAll 45 = .ok (.istore_n 1, 1) := by decide +kernel
theorem dX6_openAll_46 : decode cX6_openAll 46 = .ok (.iload_n 1, 1) := by decide +kernel
theorem dX6_openAll_47 : decode cX6_openAll 47 = .ok (.aload_n 0, 1) := by decide +kernel
theorem dX6_openAll_48 : decode cX6_openAll 48 = .ok (.getfield 157, 3) := by decide +kernel
theorem dX6_openAll_51 : decode cX6_openAll 51 = .ok (.if_icmp .ge 74, 3) := by decide +kernel
theorem dX6_openAll_54 : decode cX6_openAll 54 = .ok (.bipush 11, 2) := by decide +kernel
theorem dX6_openAll_56 : decode cX6_openAll 56 = .ok (.iload_n 1, 1) := by decide +kernel
theorem dX6_openAll_57 : decode cX6_openAll 57 = .ok (.imul, 1) := by decide +kernel
theorem dX6_openAll_58 : decode cX6_openAll 58 = .ok (.istore_n 2, 1) := by decide +kernel
theorem dX6_openAll_59 : decode cX6_openAll 59 = .ok (.aload_n 0, 1) := by decide +kernel
theorem dX6_openAll_60 : decode cX6_openAll 60 = .ok (.aload_n 0, 1) := by decide +kernel
theorem dX6_openAll_61 : decode cX6_openAll 61 = .ok (.getfield 25, 3) := by decide +kernel
theorem dX6_openAll_64 : decode cX6_openAll 64 = .ok (.iload_n 2, 1) := by decide +kernel
theorem dX6_openAll_65 : decode cX6_openAll 65 = .ok (.iaload, 1) := by decide +kernel
theorem dX6_openAll_66 : decode cX6_openAll 66 = .ok (.aload_n 0, 1) := by decide +kernel
theorem dX6_openAll_67 : decode cX6_openAll 67 = .ok (.getfield 25, 3) := by decide +kernel
theorem dX6_openAll_70 : decode cX6_openAll 70 = .ok (.iload_n 2, 1) := by decide +kernel
theorem dX6_openAll_71 : decode cX6_openAll 71 = .ok (.iconst 1, 1) := by decide +kernel
theorem dX6_openAll_72 : decode cX6_openAll 72 = .ok (.iadd, 1) := by decide +kernel
theorem dX6_openAll_73 : decode cX6_openAll 73 = .ok (.iaload, 1) := by decide +kernel
theorem dX6_openAll_74 : decode cX6_openAll 74 = .ok (.invokevirtual 120, 3) := by decide +kernel
theorem dX6_openAll_77 : decode cX6_openAll 77 = .ok (.iconst 0, 1) := by decide +kernel
theorem dX6_openAll_78 : decode cX6_openAll 78 = .ok (.istore_n 3, 1) := by decide +kernel
theorem dX6_openAll_79 : decode cX6_openAll 79 = .ok (.iload_n 3, 1) := by decide +kernel
theorem dX6_openAll_80 : decode cX6_openAll 80 = .ok (.aload_n 0, 1) := by decide +kernel
theorem dX6_openAll_81 : decode cX6_openAll 81 = .ok (.getfield 25, 3) := by decide +kernel
theorem dX6_openAll_84 : decode cX6_openAll 84 = .ok (.iload_n 2, 1) := by decide +kernel
theorem dX6_openAll_85 : decode cX6_openAll 85 = .ok (.iconst 2, 1) := by decide +kernel
theorem dX6_openAll_86 : decode cX6_openAll 86 = .ok (.iadd, 1) := by decide +kernel
theorem dX6_openAll_87 : decode cX6_openAll 87 = .ok (.iaload, 1) := by decide +kernel
theorem dX6_openAll_88 : decode cX6_openAll 88 = .ok (.if_icmp .ge 31, 3) := by decide +kernel
theorem dX6_openAll_91 : decode cX6_openAll 91 = .ok (.aload_n 0, 1) := by decide +kernel
theorem dX6_openAll_92 : decode cX6_openAll 92 = .ok (.aload_n 0, 1) := by decide +kernel
theorem dX6_openAll_93 : decode cX6_openAll 93 = .ok (.getfield 7, 3) := by decide +kernel
theorem dX6_openAll_96 : decode cX6_openAll 96 = .ok (.iconst 0, 1) := by decide +kernel
theorem dX6_openAll_97 : decode cX6_openAll 97 = .ok (.iaload, 1) := by decide +kernel
theorem dX6_openAll_98 : decode cX6_openAll 98 = .ok (.iconst 1, 1) := by decide +kernel
theorem dX6_openAll_99 : decode cX6_openAll 99 = .ok (.isub, 1) := by decide +kernel
theorem dX6_openAll_100 : decode cX6_openAll 100 = .ok (.aload_n 0, 1) := by decide +kernel
theorem dX6_openAll_101 : decode cX6_openAll 101 = .ok (.getfield 25, 3) := by decide +kernel
theorem dX6_openAll_104 : decode cX6_openAll 104 = .ok (.iload_n 2, 1) := by decide +kernel
theorem dX6_openAll_105 : decode cX6_openAll 105 = .ok (.iconst 3, 1) := by decide +kernel
theorem dX6_openAll_106 : decode cX6_openAll 106 = .ok (.iadd, 1) := by decide +kernel
theorem dX6_openAll_107 : decode cX6_openAll 107 = .ok (.iload_n 3, 1) := by decide +kernel
theorem dX6_openAll_108 : decode cX6_openAll 108 = .ok (.iadd, 1) := by decide +kernel
theorem dX6_openAll_109 : decode cX6_openAll 109 = .ok (.iaload, 1) := by decide +kernel
theorem dX6_openAll_110 : decode cX6_openAll 110 = .ok (.invokevirtual 126, 3) := by decide +kernel
theorem dX6_openAll_113 : decode cX6_openAll 113 = .ok (.iinc 3 1, 3) := by decide +kernel
theorem dX6_openAll_116 : decode cX6_openAll 116 = .ok (.goto (-37), 3) := by decide +kernel
theorem dX6_openAll_119 : decode cX6_openAll 119 = .ok (.iinc 1 1, 3) := by decide +kernel
theorem dX6_openAll_122 : decode cX6_openAll 122 = .ok (.goto (-76), 3) := by decide +kernel
theorem dX6_openAll_125 : decode cX6_openAll 125 = .ok (.aload_n 0, 1) := by decide +kernel
theorem dX6_openAll_126 : decode cX6_openAll 126 = .ok (.iconst 0, 1) := by decide +kernel
theorem dX6_openAll_127 : decode cX6_openAll 127 = .ok (.putfield 141, 3) := by decide +kernel
theorem dX6_openAll_130 : decode cX6_openAll 130 = .ok (.aload_n 0, 1) := by decide +kernel
theorem dX6_openAll_131 : decode cX6_openAll 131 = .ok (.getfield 7, 3) := by decide +kernel
theorem dX6_openAll_134 : decode cX6_openAll 134 = .ok (.iconst 0, 1) := by decide +kernel
theorem dX6_openAll_135 : decode cX6_openAll 135 = .ok (.iaload, 1) := by decide +kernel
theorem dX6_openAll_136 : decode cX6_openAll 136 = .ok (.ireturn, 1) := by decide +kernel
theorem dX6_undo_0 : decode cX6_undo 0 = .ok (.aload_n 0, 1) := by decide +kernel
theorem dX6_undo_1 : decode cX6_undo 1 = .ok (.iconst 0, 1) := by decide +kernel
theorem dX6_undo_2 : decode cX6_undo 2 = .ok (.putfield 28, 3) := by decide +kernel
theorem dX6_undo_5 : decode cX6_undo 5 = .ok (.aload_n 0, 1) := by decide +kernel
theorem dX6_undo_6 : decode cX6_undo 6 = .ok (.getfield 32, 3) := by decide +kernel
theorem dX6_undo_9 : decode cX6_undo 9 = .ok (.ifCond .ne 9, 3) := by decide +kernel
theorem dX6_undo_12 : decode cX6_undo 12 = .ok (.aload_n 0, 1) := by decide +kernel
theorem dX6_undo_13 : decode cX6_undo 13 = .ok (.iconst 1, 1) := by decide +kernel
theorem dX6_undo_14 : decode cX6_undo 14 = .ok (.invokevirtual 114, 3) := by decide +kernel
theorem dX6_undo_17 : decode cX6_undo 17 = .ok (.ireturn, 1) := by decide +kernel
theorem dX6_undo_18 : decode cX6_undo 18 = .ok (.aload_n 0, 1) := by decide +kernel
theorem dX6_undo_19 : decode cX6_undo 19 = .ok (.dup, 1) := by decide +kernel
theorem dX6_undo_20 : decode cX6_undo 20 = .ok (.getfield 32, 3) := by decide +kernel
theorem dX6_undo_23 : decode cX6_undo 23 = .ok (.iconst 1, 1) := by decide +kernel
theorem dX6_undo_24 : decode cX6_undo 24 = .ok (.isub, 1) := by decide +kernel
theorem dX6_undo_25 : decode cX6_undo 25 = .ok (.putfield 32, 3) := by decide +kernel
theorem dX6_undo_28 : decode cX6_undo 28 = .ok (.iconst 0, 1) := by decide +kernel
theorem dX6_undo_29 : decode cX6_undo 29 = .ok (.istore_n 1, 1) := by decide +kernel
theorem dX6_undo_30 : decode cX6_undo 30 = .ok (.iload_n 1, 1) := by decide +kernel
theorem dX6_undo_31 : decode cX6_undo 31 = .ok (.sipush 444, 3) := by decide +kernel
theorem dX6_undo_34 : decode cX6_undo 34 = .ok (.if_icmp .ge 30, 3) := by decide +kernel
theorem dX6_undo_37 : decode cX6_undo 37 = .ok (.aload_n 0, 1) := by decide +kernel
theorem dX6_undo_38 : decode cX6_undo 38 = .ok (.getfield 7, 3) := by decide +kernel
theorem dX6_undo_41 : decode cX6_undo 41 = .ok (.iload_n 1, 1) := by decide +kernel
theorem dX6_undo_42 : decode cX6_undo 42 = .ok (.aload_n 0, 1) := by decide +kernel
theorem dX6_undo_43 : decode cX6_undo 43 = .ok (.getfield 13, 3) := by decide +kernel
theorem dX6_undo_46 : decode cX6_undo 46 = .ok (.sipush 444, 3) := by decide +kernel
theorem dX6_undo_49 : decode cX6_undo 49 = .ok (.aload_n 0, 1) := by decide +kernel
theorem dX6_undo_50 : decode cX6_undo 50 = .ok (.getfield 32, 3) := by decide +kernel
theorem dX6_undo_53 : decode cX6_undo 53 = .ok (.imul, 1) := by decide +kernel
theorem dX6_undo_54 : decode cX6_undo 54 = .ok (.iload_n 1, 1) := by decide +kernel
theorem dX6_undo_55 : decode cX6_undo 55 = .ok (.iadd, 1) := by decide +kernel
theorem dX6_undo_56 : decode cX6_undo 56 = .ok (.iaload, 1) := by decide +kernel
theorem dX6_undo_57 : decode cX6_undo 57 = .ok (.iastore, 1) := by decide +kernel
theorem dX6_undo_58 : decode cX6_undo 58 = .ok (.iinc 1 1, 3) := by decide +kernel
theorem dX6_undo_61 : decode cX6_undo 61 = .ok (.goto (-31), 3) := by decide +kernel
theorem dX6_undo_64 : decode cX6_undo 64 = .ok (.aload_n 0, 1) := by decide +kernel
theorem dX6_undo_65 : decode cX6_undo 65 = .ok (.getfield 32, 3) := by decide +kernel
theorem dX6_undo_68 : decode cX6_undo 68 = .ok (.ireturn, 1) := by decide +kernel
theorem dX6_planned_0 : decode cX6_planned 0 = .ok (.iconst 0, 1) := by decide +kernel
theorem dX6_planned_1 : decode cX6_planned 1 = .ok (.istore_n 2, 1) := by decide +kernel
theorem dX6_planned_2 : decode cX6_planned 2 = .ok (.iconst 0, 1) := by decide +kernel
theorem dX6_planned_3 : decode cX6_planned 3 = .ok (.istore_n 3, 1) := by decide +kernel
theorem dX6_planned_4 : decode cX6_planned 4 = .ok (.iload_n 3, 1) := by decide +kernel
theorem dX6_planned_5 : decode cX6_planned 5 = .ok (.aload_n 0, 1) := by decide +kernel
theorem dX6_planned_6 : decode cX6_planned 6 = .ok (.getfield 7, 3) := by decide +kernel
theorem dX6_planned_9 : decode cX6_planned 9 = .ok (.iload_n 1, 1) := by decide +kernel
theorem dX6_planned_10 : decode cX6_planned 10 = .ok (.invokestatic 39, 3) := by decide +kernel
theorem dX6_planned_13 : decode cX6_planned 13 = .ok (.iconst 5, 1) := by decide +kernel
theorem dX6_planned_14 : decode cX6_planned 14 = .ok (.iadd, 1) := by decide +kernel
theorem dX6_planned_15 : decode cX6_planned 15 = .ok (.iaload, 1) := by decide +kernel
theorem dX6_planned_16 : decode cX6_planned 16 = .ok (.if_icmp .ge 26, 3) := by decide +kernel
theorem dX6_planned_19 : decode cX6_planned 19 = .ok (.iload_n 2, 1) := by decide +kernel
theorem dX6_planned_20 : decode cX6_planned 20 = .ok (.aload_n 0, 1) := by decide +kernel
theorem dX6_planned_21 : decode cX6_planned 21 = .ok (.getfield 7, 3) := by decide +kernel
theorem dX6_planned_24 : decode cX6_planned 24 = .ok (.iload_n 1, 1) := by decide +kernel
theorem dX6_planned_25 : decode cX6_planned 25 = .ok (.invokestatic 39, 3) := by decide +kernel
theorem dX6_planned_28 : decode cX6_planned 28 = .ok (.bipush 10, 2) := by decide +kernel
theorem dX6_planned_30 : decode cX6_planned 30 = .ok (.iadd, 1) := by decide +kernel
theorem dX6_planned_31 : decode cX6_planned 31 = .ok (.iload_n 3, 1) := by decide +kernel
theorem dX6_planned_32 : decode cX6_planned 32 = .ok (.iadd, 1) := by decide +kernel
theorem dX6_planned_33 : decode cX6_planned 33 = .ok (.iaload, 1) := by decide +kernel
theorem dX6_planned_34 : decode cX6_planned 34 = .ok (.iadd, 1) := by decide +kernel
theorem dX6_planned_35 : decode cX6_planned 35 = .ok (.istore_n 2, 1) := by decide +kernel
theorem dX6_planned_36 : decode cX6_planned 36 = .ok (.iinc 3 1, 3) := by decide +kernel
theorem dX6_planned_39 : decode cX6_planned 39 = .ok (.goto (-35), 3) := by decide +kernel
theorem dX6_planned_42 : decode cX6_planned 42 = .ok (.iload_n 2, 1) := by decide +kernel
theorem dX6_planned_43 : decode cX6_planned 43 = .ok (.ireturn, 1) := by decide +kernel
theorem dX6_spent_0 : decode cX6_spent 0 = .ok (.iconst 0, 1) := by decide +kernel
theorem dX6_spent_1 : decode cX6_spent 1 = .ok (.istore_n 2, 1) := by decide +kernel
theorem dX6_spent_2 : decode cX6_spent 2 = .ok (.iconst 0, 1) := by decide +kernel
theorem dX6_spent_3 : decode cX6_spent 3 = .ok (.istore_n 3, 1) := by decide +kernel
theorem dX6_spent_4 : decode cX6_spent 4 = .ok (.iload_n 3, 1) := by decide +kernel
theorem dX6_spent_5 : decode cX6_spent 5 = .ok (.aload_n 0, 1) := by decide +kernel
theorem dX6_spent_6 : decode cX6_spent 6 = .ok (.getfield 7, 3) := by decide +kernel
theorem dX6_spent_9 : decode cX6_spent 9 = .ok (.iload_n 1, 1) := by decide +kernel
theorem dX6_spent_10 : decode cX6_spent 10 = .ok (.invokestatic 39, 3) := by decide +kernel
theorem dX6_spent_13 : decode cX6_spent 13 = .ok (.bipush 6, 2) := by decide +kernel
theorem dX6_spent_15 : decode cX6_spent 15 = .ok (.iadd, 1) := by decide +kernel
theorem dX6_spent_16 : decode cX6_spent 16 = .ok (.iaload, 1) := by decide +kernel
theorem dX6_spent_17 : decode cX6_spent 17 = .ok (.if_icmp .ge 26, 3) := by decide +kernel
theorem dX6_spent_20 : decode cX6_spent 20 = .ok (.iload_n 2, 1) := by decide +kernel
theorem dX6_spent_21 : decode cX6_spent 21 = .ok (.aload_n 0, 1) := by decide +kernel
theorem dX6_spent_22 : decode cX6_spent 22 = .ok (.getfield 7, 3) := by decide +kernel
theorem dX6_spent_25 : decode cX6_spent 25 = .ok (.iload_n 1, 1) := by decide +kernel
theorem dX6_spent_26 : decode cX6_spent 26 = .ok (.invokestatic 39, 3) := by decide +kernel
theorem dX6_spent_29 : decode cX6_spent 29 = .ok (.bipush 18, 2) := by decide +kernel
theorem dX6_spent_31 : decode cX6_spent 31 = .ok (.iadd, 1) := by decide +kernel
theorem dX6_spent_32 : decode cX6_spent 32 = .ok (.iload_n 3, 1) := by decide +kernel
theorem dX6_spent_33 : decode cX6_spent 33 = .ok (.iadd, 1) := by decide +kernel
theorem dX6_spent_34 : decode cX6_spent 34 = .ok (.iaload, 1) := by decide +kernel
end
section
theorem dX6_spent_35 : decode cX6_spent 35 = .ok (.iadd, 1) := by decide +kernel
theorem dX6_spent_36 : decode cX6_spent 36 = .ok (.istore_n 2, 1) := by decide +kernel
theorem dX6_spent_37 : decode cX6_spent 37 = .ok (.iinc 3 1, 3) := by decide +kernel
theorem dX6_spent_40 : decode cX6_spent 40 = .ok (.goto (-36), 3) := by decide +kernel
theorem dX6_spent_43 : decode cX6_spent 43 = .ok (.iload_n 2, 1) := by decide +kernel
theorem dX6_spent_44 : decode cX6_spent 44 = .ok (.ireturn, 1) := by decide +kernel
theorem dX6_projectOf_0 : decode cX6_projectOf 0 = .ok (.iload_n 1, 1) := by decide +kernel
theorem dX6_projectOf_1 : decode cX6_projectOf 1 = .ok (.invokestatic 39, 3) := by decide +kernel
theorem dX6_projectOf_4 : decode cX6_projectOf 4 = .ok (.istore_n 3, 1) := by decide +kernel
theorem dX6_projectOf_5 : decode cX6_projectOf 5 = .ok (.iload_n 2, 1) := by decide +kernel
theorem dX6_projectOf_6 : decode cX6_projectOf 6 = .ok (.tableswitch 161 0 13 #[70, 70, 70, 70, 79, 85, 91, 100, 109, 119, 129, 139, 149, 155], 70) := by decide +kernel
theorem dX6_projectOf_76 : decode cX6_projectOf 76 = .ok (.aload_n 0, 1) := by decide +kernel
theorem dX6_projectOf_77 : decode cX6_projectOf 77 = .ok (.getfield 7, 3) := by decide +kernel
theorem dX6_projectOf_80 : decode cX6_projectOf 80 = .ok (.iload_n 3, 1) := by decide +kernel
theorem dX6_projectOf_81 : decode cX6_projectOf 81 = .ok (.iload_n 2, 1) := by decide +kernel
theorem dX6_projectOf_82 : decode cX6_projectOf 82 = .ok (.iadd, 1) := by decide +kernel
theorem dX6_projectOf_83 : decode cX6_projectOf 83 = .ok (.iaload, 1) := by decide +kernel
theorem dX6_projectOf_84 : decode cX6_projectOf 84 = .ok (.ireturn, 1) := by decide +kernel
theorem dX6_projectOf_85 : decode cX6_projectOf 85 = .ok (.aload_n 0, 1) := by decide +kernel
theorem dX6_projectOf_86 : decode cX6_projectOf 86 = .ok (.iload_n 1, 1) := by decide +kernel
theorem dX6_projectOf_87 : decode cX6_projectOf 87 = .ok (.invokevirtual 170, 3) := by decide +kernel
theorem dX6_projectOf_90 : decode cX6_projectOf 90 = .ok (.ireturn, 1) := by decide +kernel
theorem dX6_projectOf_91 : decode cX6_projectOf 91 = .ok (.aload_n 0, 1) := by decide +kernel
theorem dX6_projectOf_92 : decode cX6_projectOf 92 = .ok (.iload_n 1, 1) := by decide +kernel
theorem dX6_projectOf_93 : decode cX6_projectOf 93 = .ok (.invokevirtual 71, 3) := by decide +kernel
theorem dX6_projectOf_96 : decode cX6_projectOf 96 = .ok (.ireturn, 1) := by decide +kernel
theorem dX6_projectOf_97 : decode cX6_projectOf 97 = .ok (.aload_n 0, 1) := by decide +kernel
theorem dX6_projectOf_98 : decode cX6_projectOf 98 = .ok (.getfield 7, 3) := by decide +kernel
theorem dX6_projectOf_101 : decode cX6_projectOf 101 = .ok (.iload_n 3, 1) := by decide +kernel
theorem dX6_projectOf_102 : decode cX6_projectOf 102 = .ok (.iconst 4, 1) := by decide +kernel
theorem dX6_projectOf_103 : decode cX6_projectOf 103 = .ok (.iadd, 1) := by decide +kernel
theorem dX6_projectOf_104 : decode cX6_projectOf 104 = .ok (.iaload, 1) := by decide +kernel
theorem dX6_projectOf_105 : decode cX6_projectOf 105 = .ok (.ireturn, 1) := by decide +kernel
theorem dX6_projectOf_106 : decode cX6_projectOf 106 = .ok (.aload_n 0, 1) := by decide +kernel
theorem dX6_projectOf_107 : decode cX6_projectOf 107 = .ok (.getfield 7, 3) := by decide +kernel
theorem dX6_projectOf_110 : decode cX6_projectOf 110 = .ok (.iload_n 3, 1) := by decide +kernel
theorem dX6_projectOf_111 : decode cX6_projectOf 111 = .ok (.iconst 5, 1) := by decide +kernel
theorem dX6_projectOf_112 : decode cX6_projectOf 112 = .ok (.iadd, 1) := by decide +kernel
theorem dX6_projectOf_113 : decode cX6_projectOf 113 = .ok (.iaload, 1) := by decide +kernel
theorem dX6_projectOf_114 : decode cX6_projectOf 114 = .ok (.ireturn, 1) := by decide +kernel
theorem dX6_projectOf_115 : decode cX6_projectOf 115 = .ok (.aload_n 0, 1) := by decide +kernel
theorem dX6_projectOf_116 : decode cX6_projectOf 116 = .ok (.getfield 7, 3) := by decide +kernel
theorem dX6_projectOf_119 : decode cX6_projectOf 119 = .ok (.iload_n 3, 1) := by decide +kernel
theorem dX6_projectOf_120 : decode cX6_projectOf 120 = .ok (.bipush 6, 2) := by decide +kernel
theorem dX6_projectOf_122 : decode cX6_projectOf 122 = .ok (.iadd, 1) := by decide +kernel
theorem dX6_projectOf_123 : decode cX6_projectOf 123 = .ok (.iaload, 1) := by decide +kernel
theorem dX6_projectOf_124 : decode cX6_projectOf 124 = .ok (.ireturn, 1) := by decide +kernel
theorem dX6_projectOf_125 : decode cX6_projectOf 125 = .ok (.aload_n 0, 1) := by decide +kernel
theorem dX6_projectOf_126 : decode cX6_projectOf 126 = .ok (.getfield 7, 3) := by decide +kernel
theorem dX6_projectOf_129 : decode cX6_projectOf 129 = .ok (.iload_n 3, 1) := by decide +kernel
theorem dX6_projectOf_130 : decode cX6_projectOf 130 = .ok (.bipush 7, 2) := by decide +kernel
theorem dX6_projectOf_132 : decode cX6_projectOf 132 = .ok (.iadd, 1) := by decide +kernel
theorem dX6_projectOf_133 : decode cX6_projectOf 133 = .ok (.iaload, 1) := by decide +kernel
theorem dX6_projectOf_134 : decode cX6_projectOf 134 = .ok (.ireturn, 1) := by decide +kernel
theorem dX6_projectOf_135 : decode cX6_projectOf 135 = .ok (.aload_n 0, 1) := by decide +kernel
theorem dX6_projectOf_136 : decode cX6_projectOf 136 = .ok (.getfield 7, 3) := by decide +kernel
theorem dX6_projectOf_139 : decode cX6_projectOf 139 = .ok (.iload_n 3, 1) := by decide +kernel
theorem dX6_projectOf_140 : decode cX6_projectOf 140 = .ok (.bipush 8, 2) := by decide +kernel
theorem dX6_projectOf_142 : decode cX6_projectOf 142 = .ok (.iadd, 1) := by decide +kernel
theorem dX6_projectOf_143 : decode cX6_projectOf 143 = .ok (.iaload, 1) := by decide +kernel
theorem dX6_projectOf_144 : decode cX6_projectOf 144 = .ok (.ireturn, 1) := by decide +kernel
theorem dX6_projectOf_145 : decode cX6_projectOf 145 = .ok (.aload_n 0, 1) := by decide +kernel
theorem dX6_projectOf_146 : decode cX6_projectOf 146 = .ok (.getfield 7, 3) := by decide +kernel
theorem dX6_projectOf_149 : decode cX6_projectOf 149 = .ok (.iload_n 3, 1) := by decide +kernel
theorem dX6_projectOf_150 : decode cX6_projectOf 150 = .ok (.bipush 9, 2) := by decide +kernel
theorem dX6_projectOf_152 : decode cX6_projectOf 152 = .ok (.iadd, 1) := by decide +kernel
theorem dX6_projectOf_153 : decode cX6_projectOf 153 = .ok (.iaload, 1) := by decide +kernel
theorem dX6_projectOf_154 : decode cX6_projectOf 154 = .ok (.ireturn, 1) := by decide +kernel
theorem dX6_projectOf_155 : decode cX6_projectOf 155 = .ok (.aload_n 0, 1) := by decide +kernel
theorem dX6_projectOf_156 : decode cX6_projectOf 156 = .ok (.iload_n 1, 1) := by decide +kernel
theorem dX6_projectOf_157 : decode cX6_projectOf 157 = .ok (.invokevirtual 173, 3) := by decide +kernel
theorem dX6_projectOf_160 : decode cX6_projectOf 160 = .ok (.ireturn, 1) := by decide +kernel
theorem dX6_projectOf_161 : decode cX6_projectOf 161 = .ok (.aload_n 0, 1) := by decide +kernel
theorem dX6_projectOf_162 : decode cX6_projectOf 162 = .ok (.iload_n 1, 1) := by decide +kernel
theorem dX6_projectOf_163 : decode cX6_projectOf 163 = .ok (.invokevirtual 176, 3) := by decide +kernel
theorem dX6_projectOf_166 : decode cX6_projectOf 166 = .ok (.ireturn, 1) := by decide +kernel
theorem dX6_projectOf_167 : decode cX6_projectOf 167 = .ok (.aload_n 0, 1) := by decide +kernel
theorem dX6_projectOf_168 : decode cX6_projectOf 168 = .ok (.iload_n 1, 1) := by decide +kernel
theorem dX6_projectOf_169 : decode cX6_projectOf 169 = .ok (.invokevirtual 68, 3) := by decide +kernel
theorem dX6_projectOf_172 : decode cX6_projectOf 172 = .ok (.ireturn, 1) := by decide +kernel
theorem dX6_project_0 : decode cX6_project 0 = .ok (.aload_n 0, 1) := by decide +kernel
theorem dX6_project_1 : decode cX6_project 1 = .ok (.iconst 0, 1) := by decide +kernel
theorem dX6_project_2 : decode cX6_project 2 = .ok (.putfield 28, 3) := by decide +kernel
theorem dX6_project_5 : decode cX6_project 5 = .ok (.aload_n 0, 1) := by decide +kernel
theorem dX6_project_6 : decode cX6_project 6 = .ok (.iload_n 1, 1) := by decide +kernel
theorem dX6_project_7 : decode cX6_project 7 = .ok (.invokevirtual 123, 3) := by decide +kernel
theorem dX6_project_10 : decode cX6_project 10 = .ok (.ifCond .ne 9, 3) := by decide +kernel
theorem dX6_project_13 : decode cX6_project 13 = .ok (.aload_n 0, 1) := by decide +kernel
theorem dX6_project_14 : decode cX6_project 14 = .ok (.iconst 1, 1) := by decide +kernel
theorem dX6_project_15 : decode cX6_project 15 = .ok (.invokevirtual 114, 3) := by decide +kernel
theorem dX6_project_18 : decode cX6_project 18 = .ok (.ireturn, 1) := by decide +kernel
theorem dX6_project_19 : decode cX6_project 19 = .ok (.iload_n 2, 1) := by decide +kernel
theorem dX6_project_20 : decode cX6_project 20 = .ok (.iconst 0, 1) := by decide +kernel
theorem dX6_project_21 : decode cX6_project 21 = .ok (.bipush 14, 2) := by decide +kernel
theorem dX6_project_23 : decode cX6_project 23 = .ok (.invokestatic 35, 3) := by decide +kernel
theorem dX6_project_26 : decode cX6_project 26 = .ok (.ifCond .eq 12, 3) := by decide +kernel
theorem dX6_project_29 : decode cX6_project 29 = .ok (.aload_n 0, 1) := by decide +kernel
theorem dX6_project_30 : decode cX6_project 30 = .ok (.iload_n 1, 1) := by decide +kernel
theorem dX6_project_31 : decode cX6_project 31 = .ok (.iload_n 2, 1) := by decide +kernel
theorem dX6_project_32 : decode cX6_project 32 = .ok (.invokevirtual 179, 3) := by decide +kernel
theorem dX6_project_35 : decode cX6_project 35 = .ok (.goto 8, 3) := by decide +kernel
theorem dX6_project_38 : decode cX6_project 38 = .ok (.aload_n 0, 1) := by decide +kernel
theorem dX6_project_39 : decode cX6_project 39 = .ok (.iconst 2, 1) := by decide +kernel
theorem dX6_project_40 : decode cX6_project 40 = .ok (.invokevirtual 114, 3) := by decide +kernel
theorem dX6_project_43 : decode cX6_project 43 = .ok (.ireturn, 1) := by decide +kernel
theorem dX6_taskOf_0 : decode cX6_taskOf 0 = .ok (.iload_n 1, 1) := by decide +kernel
theorem dX6_taskOf_1 : decode cX6_taskOf 1 = .ok (.invokestatic 39, 3) := by decide +kernel
theorem dX6_taskOf_4 : decode cX6_taskOf 4 = .ok (.istore 4, 2) := by decide +kernel
theorem dX6_taskOf_6 : decode cX6_taskOf 6 = .ok (.iload_n 3, 1) := by decide +kernel
theorem dX6_taskOf_7 : decode cX6_taskOf 7 = .ok (.iconst 2, 1) := by decide +kernel
theorem dX6_taskOf_8 : decode cX6_taskOf 8 = .ok (.if_icmp .ge 35, 3) := by decide +kernel
theorem dX6_taskOf_11 : decode cX6_taskOf 11 = .ok (.iload_n 3, 1) := by decide +kernel
theorem dX6_taskOf_12 : decode cX6_taskOf 12 = .ok (.ifCond .ne 18, 3) := by decide +kernel
theorem dX6_taskOf_15 : decode cX6_taskOf 15 = .ok (.aload_n 0, 1) := by decide +kernel
theorem dX6_taskOf_16 : decode cX6_taskOf 16 = .ok (.getfield 7, 3) := by decide +kernel
theorem dX6_taskOf_19 : decode cX6_taskOf 19 = .ok (.iload 4, 2) := by decide +kernel
theorem dX6_taskOf_21 : decode cX6_taskOf 21 = .ok (.bipush 10, 2) := by decide +kernel
theorem dX6_taskOf_23 : decode cX6_taskOf 23 = .ok (.iadd, 1) := by decide +kernel
theorem dX6_taskOf_24 : decode cX6_taskOf 24 = .ok (.iload_n 2, 1) := by decide +kernel
theorem dX6_taskOf_25 : decode cX6_taskOf 25 = .ok (.iadd, 1) := by decide +kernel
theorem dX6_taskOf_26 : decode cX6_taskOf 26 = .ok (.iaload, 1) := by decide +kernel
theorem dX6_taskOf_27 : decode cX6_taskOf 27 = .ok (.goto 15, 3) := by decide +kernel
theorem dX6_taskOf_30 : decode cX6_taskOf 30 = .ok (.aload_n 0, 1) := by decide +kernel
theorem dX6_taskOf_31 : decode cX6_taskOf 31 = .ok (.getfield 7, 3) := by decide +kernel
theorem dX6_taskOf_34 : decode cX6_taskOf 34 = .ok (.iload 4, 2) := by decide +kernel
theorem dX6_taskOf_36 : decode cX6_taskOf 36 = .ok (.bipush 18, 2) := by decide +kernel
theorem dX6_taskOf_38 : decode cX6_taskOf 38 = .ok (.iadd, 1) := by decide +kernel
theorem dX6_taskOf_39 : decode cX6_taskOf 39 = .ok (.iload_n 2, 1) := by decide +kernel
theorem dX6_taskOf_40 : decode cX6_taskOf 40 = .ok (.iadd, 1) := by decide +kernel
theorem dX6_taskOf_41 : decode cX6_taskOf 41 = .ok (.iaload, 1) := by decide +kernel
theorem dX6_taskOf_42 : decode cX6_taskOf 42 = .ok (.ireturn, 1) := by decide +kernel
theorem dX6_taskOf_43 : decode cX6_taskOf 43 = .ok (.aload_n 0, 1) := by decide +kernel
theorem dX6_taskOf_44 : decode cX6_taskOf 44 = .ok (.getfield 7, 3) := by decide +kernel
theorem dX6_taskOf_47 : decode cX6_taskOf 47 = .ok (.iload 4, 2) := by decide +kernel
theorem dX6_taskOf_49 : decode cX6_taskOf 49 = .ok (.bipush 26, 2) := by decide +kernel
theorem dX6_taskOf_51 : decode cX6_taskOf 51 = .ok (.iadd, 1) := by decide +kernel
theorem dX6_taskOf_52 : decode cX6_taskOf 52 = .ok (.iconst 4, 1) := by decide +kernel
theorem dX6_taskOf_53 : decode cX6_taskOf 53 = .ok (.iload_n 2, 1) := by decide +kernel
theorem dX6_taskOf_54 : decode cX6_taskOf 54 = .ok (.imul, 1) := by decide +kernel
theorem dX6_taskOf_55 : decode cX6_taskOf 55 = .ok (.iadd, 1) := by decide +kernel
theorem dX6_taskOf_56 : decode cX6_taskOf 56 = .ok (.iload_n 3, 1) := by decide +kernel
theorem dX6_taskOf_57 : decode cX6_taskOf 57 = .ok (.iadd, 1) := by decide +kernel
theorem dX6_taskOf_58 : decode cX6_taskOf 58 = .ok (.iconst 2, 1) := by decide +kernel
theorem dX6_taskOf_59 : decode cX6_taskOf 59 = .ok (.isub, 1) := by decide +kernel
theorem dX6_taskOf_60 : decode cX6_taskOf 60 = .ok (.iaload, 1) := by decide +kernel
theorem dX6_taskOf_61 : decode cX6_taskOf 61 = .ok (.ireturn, 1) := by decide +kernel
theorem dX6_task_0 : decode cX6_task 0 = .ok (.aload_n 0, 1) := by decide +kernel
theorem dX6_task_1 : decode cX6_task 1 = .ok (.iconst 0, 1) := by decide +kernel
theorem dX6_task_2 : decode cX6_task 2 = .ok (.putfield 28, 3) := by decide +kernel
theorem dX6_task_5 : decode cX6_task 5 = .ok (.aload_n 0, 1) := by decide +kernel
theorem dX6_task_6 : decode cX6_task 6 = .ok (.iload_n 1, 1) := by decide +kernel
theorem dX6_task_7 : decode cX6_task 7 = .ok (.invokevirtual 123, 3) := by decide +kernel
theorem dX6_task_10 : decode cX6_task 10 = .ok (.ifCond .eq 24, 3) := by decide +kernel
theorem dX6_task_13 : decode cX6_task 13 = .ok (.iload_n 2, 1) := by decide +kernel
theorem dX6_task_14 : decode cX6_task 14 = .ok (.iconst 0, 1) := by decide +kernel
theorem dX6_task_15 : decode cX6_task 15 = .ok (.aload_n 0, 1) := by decide +kernel
theorem dX6_task_16 : decode cX6_task 16 = .ok (.getfield 7, 3) := by decide +kernel
theorem dX6_task_19 : decode cX6_task 19 = .ok (.iload_n 1, 1) := by decide +kernel
theorem dX6_task_20 : decode cX6_task 20 = .ok (.invokestatic 39, 3) := by decide +kernel
theorem dX6_task_23 : decode cX6_task 23 = .ok (.iconst 5, 1) := by decide +kernel
theorem dX6_task_24 : decode cX6_task 24 = .ok (.iadd, 1) := by decide +kernel
theorem dX6_task_25 : decode cX6_task 25 = .ok (.iaload, 1) := by decide +kernel
theorem dX6_task_26 : decode cX6_task 26 = .ok (.iconst 1, 1) := by decide +kernel
theorem dX6_task_27 : decode cX6_task 27 = .ok (.isub, 1) := by decide +kernel
theorem dX6_task_28 : decode cX6_task 28 = .ok (.invokestatic 35, 3) := by decide +kernel
theorem dX6_task_31 : decode cX6_task 31 = .ok (.ifCond .ne 9, 3) := by decide +kernel
theorem dX6_task_34 : decode cX6_task 34 = .ok (.aload_n 0, 1) := by decide +kernel
theorem dX6_task_35 : decode cX6_task 35 = .ok (.iconst 1, 1) := by decide +kernel
theorem dX6_task_36 : decode cX6_task 36 = .ok (.invokevirtual 114, 3) := by decide +kernel
theorem dX6_task_39 : decode cX6_task 39 = .ok (.ireturn, 1) := by decide +kernel
theorem dX6_task_40 : decode cX6_task 40 = .ok (.iload_n 3, 1) := by decide +kernel
theorem dX6_task_41 : decode cX6_task 41 = .ok (.iconst 0, 1) := by decide +kernel
theorem dX6_task_42 : decode cX6_task 42 = .ok (.iconst 5, 1) := by decide +kernel
theorem dX6_task_43 : decode cX6_task 43 = .ok (.invokestatic 35, 3) := by decide +kernel
theorem dX6_task_46 : decode cX6_task 46 = .ok (.ifCond .eq 13, 3) := by decide +kernel
theorem dX6_task_49 : decode cX6_task 49 = .ok (.aload_n 0, 1) := by decide +kernel
theorem dX6_task_50 : decode cX6_task 50 = .ok (.iload_n 1, 1) := by decide +kernel
theorem dX6_task_51 : decode cX6_task 51 = .ok (.iload_n 2, 1) := by decide +kernel
theorem dX6_task_52 : decode cX6_task 52 = .ok (.iload_n 3, 1) := by decide +kernel
theorem dX6_task_53 : decode cX6_task 53 = .ok (.invokevirtual 182, 3) := by decide +kernel
theorem dX6_task_56 : decode cX6_task 56 = .ok (.goto 8, 3) := by decide +kernel
theorem dX6_task_59 : decode cX6_task 59 = .ok (.aload_n 0, 1) := by decide +kernel
theorem dX6_task_60 : decode cX6_task 60 = .ok (.iconst 2, 1) := by decide +kernel
theorem dX6_task_61 : decode cX6_task 61 = .ok (.invokevirtual 114, 3) := by decide +kernel
theorem dX6_task_64 : decode cX6_task 64 = .ok (.ireturn, 1) := by decide +kernel
theorem dX6_loan_0 : decode cX6_loan 0 = .ok (.aload_n 0, 1) := by decide +kernel
theorem dX6_loan_1 : decode cX6_loan 1 = .ok (.iconst 0, 1) := by decide +kernel
theorem dX6_loan_2 : decode cX6_loan 2 = .ok (.putfield 28, 3) := by decide +kernel
theorem dX6_loan_5 : decode cX6_loan 5 = .ok (.iload_n 1, 1) := by decide +kernel
theorem dX6_loan_6 : decode cX6_loan 6 = .ok (.iconst 0, 1) := by decide +kernel
theorem dX6_loan_7 : decode cX6_loan 7 = .ok (.aload_n 0, 1) := by decide +kernel
theorem dX6_loan_8 : decode cX6_loan 8 = .ok (.getfield 7, 3) := by decide +kernel
theorem dX6_loan_11 : decode cX6_loan 11 = .ok (.iconst 1, 1) := by decide +kernel
theorem dX6_loan_12 : decode cX6_loan 12 = .ok (.iaload, 1) := by decide +kernel
theorem dX6_loan_13 : decode cX6_loan 13 = .ok (.iconst 1, 1) := by decide +kernel
theorem dX6_loan_14 : decode cX6_loan 14 = .ok (.isub, 1) := by decide +kernel
theorem dX6_loan_15 : decode cX6_loan 15 = .ok (.invokestatic 35, 3) := by decide +kernel
theorem dX6_loan_18 : decode cX6_loan 18 = .ok (.ifCond .ne 9, 3) := by decide +kernel
theorem dX6_loan_21 : decode cX6_loan 21 = .ok (.aload_n 0, 1) := by decide +kernel
theorem dX6_loan_22 : decode cX6_loan 22 = .ok (.iconst 1, 1) := by decide +kernel
theorem dX6_loan_23 : decode cX6_loan 23 = .ok (.invokevirtual 114, 3) := by decide +kernel
theorem dX6_loan_26 : decode cX6_loan 26 = .ok (.ireturn, 1) := by decide +kernel
theorem dX6_loan_27 : decode cX6_loan 27 = .ok (.iload_n 2, 1) := by decide +kernel
theorem dX6_loan_28 : decode cX6_loan 28 = .ok (.iconst 0, 1) := by decide +kernel
theorem dX6_loan_29 : decode cX6_loan 29 = .ok (.iconst 2, 1) := by decide +kernel
theorem dX6_loan_30 : decode cX6_loan 30 = .ok (.invokestatic 35, 3) := by decide +kernel
theorem dX6_loan_33 : decode cX6_loan 33 = .ok (.ifCond .eq 17, 3) := by decide +kernel
theorem dX6_loan_36 : decode cX6_loan 36 = .ok (.aload_n 0, 1) := by decide +kernel
theorem dX6_loan_37 : decode cX6_loan 37 = .ok (.getfield 7, 3) := by decide +kernel
theorem dX6_loan_40 : decode cX6_loan 40 = .ok (.iload_n 1, 1) := by decide +kernel
theorem dX6_loan_41 : decode cX6_loan 41 = .ok (.invokestatic 50, 3) := by decide +kernel
theorem dX6_loan_44 : decode cX6_loan 44 = .ok (.iload_n 2, 1) := by decide +kernel
theorem dX6_loan_45 : decode cX6_loan 45 = .ok (.iadd, 1) := by decide +kernel
theorem dX6_loan_46 : decode cX6_loan 46 = .ok (.iaload, 1) := by decide +kernel
theorem dX6_loan_47 : decode cX6_loan 47 = .ok (.goto 8, 3) := by decide +kernel
theorem dX6_loan_50 : decode cX6_loan 50 = .ok (.aload_n 0, 1) := by decide +kernel
theorem dX6_loan_51 : decode cX6_loan 51 = .ok (.iconst 2, 1) := by decide +kernel
theorem dX6_loan_52 : decode cX6_loan 52 = .ok (.invokevirtual 114, 3) := by decide +kernel
theorem dX6_loan_55 : decode cX6_loan 55 = .ok (.ireturn, 1) := by decide +kernel
theorem dX6_owed_0 : decode cX6_owed 0 = .ok (.aload_n 0, 1) := by decide +kernel
theorem dX6_owed_1 : decode cX6_owed 1 = .ok (.iconst 0, 1) := by decide +kernel
theorem dX6_owed_2 : decode cX6_owed 2 = .ok (.putfield 28, 3) := by decide +kernel
theorem dX6_owed_5 : decode cX6_owed 5 = .ok (.aload_n 0, 1) := by decide +kernel
theorem dX6_owed_6 : decode cX6_owed 6 = .ok (.iload_n 1, 1) := by decide +kernel
theorem dX6_owed_7 : decode cX6_owed 7 = .ok (.invokevirtual 123, 3) := by decide +kernel
theorem dX6_owed_10 : decode cX6_owed 10 = .ok (.ifCond .eq 20, 3) := by decide +kernel
theorem dX6_owed_13 : decode cX6_owed 13 = .ok (.aload_n 0, 1) := by decide +kernel
theorem dX6_owed_14 : decode cX6_owed 14 = .ok (.iload_n 2, 1) := by decide +kernel
theorem dX6_owed_15 : decode cX6_owed 15 = .ok (.invokevirtual 123, 3) := by decide +kernel
theorem dX6_owed_18 : decode cX6_owed 18 = .ok (.ifCond .eq 12, 3) := by decide +kernel
theorem dX6_owed_21 : decode cX6_owed 21 = .ok (.aload_n 0, 1) := by decide +kernel
theorem dX6_owed_22 : decode cX6_owed 22 = .ok (.iload_n 1, 1) := by decide +kernel
theorem dX6_owed_23 : decode cX6_owed 23 = .ok (.iload_n 2, 1) := by decide +kernel
theorem dX6_owed_24 : decode cX6_owed 24 = .ok (.invokevirtual 135, 3) := by decide +kernel
theorem dX6_owed_27 : decode cX6_owed 27 = .ok (.goto 8, 3) := by decide +kernel
theorem dX6_owed_30 : decode cX6_owed 30 = .ok (.aload_n 0, 1) := by decide +kernel
theorem dX6_owed_31 : decode cX6_owed 31 = .ok (.iconst 1, 1) := by decide +kernel
theorem dX6_owed_32 : decode cX6_owed 32 = .ok (.invokevirtual 114, 3) := by decide +kernel
theorem dX6_owed_35 : decode cX6_owed 35 = .ok (.ireturn, 1) := by decide +kernel
theorem dX6_lenderOf_0 : decode cX6_lenderOf 0 = .ok (.aload_n 0, 1) := by decide +kernel
theorem dX6_lenderOf_1 : decode cX6_lenderOf 1 = .ok (.iload_n 1, 1) := by decide +kernel
theorem dX6_lenderOf_2 : decode cX6_lenderOf 2 = .ok (.invokevirtual 83, 3) := by decide +kernel
theorem dX6_lenderOf_5 : decode cX6_lenderOf 5 = .ok (.iload_n 2, 1) := by decide +kernel
theorem dX6_lenderOf_6 : decode cX6_lenderOf 6 = .ok (.aload_n 0, 1) := by decide +kernel
theorem dX6_lenderOf_7 : decode cX6_lenderOf 7 = .ok (.getfield 74, 3) := by decide +kernel
theorem dX6_lenderOf_10 : decode cX6_lenderOf 10 = .ok (.if_icmp .ge 12, 3) := by decide +kernel
theorem dX6_lenderOf_13 : decode cX6_lenderOf 13 = .ok (.aload_n 0, 1) := by decide +kernel
theorem dX6_lenderOf_14 : decode cX6_lenderOf 14 = .ok (.getfield 22, 3) := by decide +kernel
theorem dX6_lenderOf_17 : decode cX6_lenderOf 17 = .ok (.iload_n 2, 1) := by decide +kernel
theorem dX6_lenderOf_18 : decode cX6_lenderOf 18 = .ok (.iaload, 1) := by decide +kernel
theorem dX6_lenderOf_19 : decode cX6_lenderOf 19 = .ok (.goto 4, 3) := by decide +kernel
theorem dX6_lenderOf_22 : decode cX6_lenderOf 22 = .ok (.iconst (-1), 1) := by decide +kernel
theorem dX6_lenderOf_23 : decode cX6_lenderOf 23 = .ok (.ireturn, 1) := by decide +kernel
theorem dX6_lender_0 : decode cX6_lender 0 = .ok (.aload_n 0, 1) := by decide +kernel
theorem dX6_lender_1 : decode cX6_lender 1 = .ok (.iconst 0, 1) := by decide +kernel
theorem dX6_lender_2 : decode cX6_lender 2 = .ok (.putfield 28, 3) := by decide +kernel
theorem dX6_lender_5 : decode cX6_lender 5 = .ok (.aload_n 0, 1) := by decide +kernel
theorem dX6_lender_6 : decode cX6_lender 6 = .ok (.iload_n 1, 1) := by decide +kernel
theorem dX6_lender_7 : decode cX6_lender 7 = .ok (.invokevirtual 123, 3) := by decide +kernel
theorem dX6_lender_10 : decode cX6_lender 10 = .ok (.ifCond .ne 9, 3) := by decide +kernel
theorem dX6_lender_13 : decode cX6_lender 13 = .ok (.aload_n 0, 1) := by decide +kernel
theorem dX6_lender_14 : decode cX6_lender 14 = .ok (.iconst 1, 1) := by decide +kernel
theorem dX6_lender_15 : decode cX6_lender 15 = .ok (.invokevirtual 114, 3) := by decide +kernel
theorem dX6_lender_18 : decode cX6_lender 18 = .ok (.ireturn, 1) := by decide +kernel
theorem dX6_lender_19 : decode cX6_lender 19 = .ok (.iload_n 2, 1) := by decide +kernel
theorem dX6_lender_20 : decode cX6_lender 20 = .ok (.iconst 0, 1) := by decide +kernel
theorem dX6_lender_21 : decode cX6_lender 21 = .ok (.iconst 4, 1) := by decide +kernel
theorem dX6_lender_22 : decode cX6_lender 22 = .ok (.invokestatic 35, 3) := by decide +kernel
theorem dX6_lender_25 : decode cX6_lender 25 = .ok (.ifCond .eq 12, 3) := by decide +kernel
theorem dX6_lender_28 : decode cX6_lender 28 = .ok (.aload_n 0, 1) := by decide +kernel
theorem dX6_lender_29 : decode cX6_lender 29 = .ok (.iload_n 1, 1) := by decide +kernel
theorem dX6_lender_30 : decode cX6_lender 30 = .ok (.iload_n 2, 1) := by decide +kernel
theorem dX6_lender_31 : decode cX6_lender 31 = .ok (.invokevirtual 186, 3) := by decide +kernel
theorem dX6_lender_34 : decode cX6_lender 34 = .ok (.goto 8, 3) := by decide +kernel
theorem dX6_lender_37 : decode cX6_lender 37 = .ok (.aload_n 0, 1) := by decide +kernel
theorem dX6_lender_38 : decode cX6_lender 38 = .ok (.iconst 2, 1) := by decide +kernel
theorem dX6_lender_39 : decode cX6_lender 39 = .ok (.invokevirtual 114, 3) := by decide +kernel
theorem dX6_lender_42 : decode cX6_lender 42 = .ok (.ireturn, 1) := by decide +kernel
theorem dX6_ofProjects_0 : decode cX6_ofProjects 0 = .ok (.iconst 0, 1) := by decide +kernel
theorem dX6_ofProjects_1 : decode cX6_ofProjects 1 = .ok (.istore_n 2, 1) := by decide +kernel
theorem dX6_ofProjects_2 : decode cX6_ofProjects 2 = .ok (.iconst 0, 1) := by decide +kernel
theorem dX6_ofProjects_3 : decode cX6_ofProjects 3 = .ok (.istore_n 3, 1) := by decide +kernel
theorem dX6_ofProjects_4 : decode cX6_ofProjects 4 = .ok (.iload_n 3, 1) := by decide +kernel
theorem dX6_ofProjects_5 : decode cX6_ofProjects 5 = .ok (.aload_n 0, 1) := by decide +kernel
theorem dX6_ofProjects_6 : decode cX6_ofProjects 6 = .ok (.getfield 7, 3) := by decide +kernel
theorem dX6_ofProjects_9 : decode cX6_ofProjects 9 = .ok (.iconst 0, 1) := by decide +kernel
theorem dX6_ofProjects_10 : decode cX6_ofProjects 10 = .ok (.iaload, 1) := by decide +kernel
theorem dX6_ofProjects_11 : decode cX6_ofProjects 11 = .ok (.if_icmp .ge 18, 3) := by decide +kernel
theorem dX6_ofProjects_14 : decode cX6_ofProjects 14 = .ok (.iload_n 2, 1) := by decide +kernel
theorem dX6_ofProjects_15 : decode cX6_ofProjects 15 = .ok (.aload_n 0, 1) := by decide +kernel
theorem dX6_ofProjects_16 : decode cX6_ofProjects 16 = .ok (.iload_n 3, 1) := by decide +kernel
theorem dX6_ofProjects_17 : decode cX6_ofProjects 17 = .ok (.iload_n 1, 1) := by decide +kernel
theorem dX6_ofProjects_18 : decode cX6_ofProjects 18 = .ok (.invokevirtual 179, 3) := by decide +kernel
theorem dX6_ofProjects_21 : decode cX6_ofProjects 21 = .ok (.iadd, 1) := by decide +kernel
theorem dX6_ofProjects_22 : decode cX6_ofProjects 22 = .ok (.istore_n 2, 1) := by decide +kernel
theorem dX6_ofProjects_23 : decode cX6_ofProjects 23 = .ok (.iinc 3 1, 3) := by decide +kernel
theorem dX6_ofProjects_26 : decode cX6_ofProjects 26 = .ok (.goto (-22), 3) := by decide +kernel
theorem dX6_ofProjects_29 : decode cX6_ofProjects 29 = .ok (.iload_n 2, 1) := by decide +kernel
theorem dX6_ofProjects_30 : decode cX6_ofProjects 30 = .ok (.ireturn, 1) := by decide +kernel
theorem dX6_delays_0 : decode cX6_delays 0 = .ok (.iconst 0, 1) := by decide +kernel
theorem dX6_delays_1 : decode cX6_delays 1 = .ok (.istore_n 1, 1) := by decide +kernel
theorem dX6_delays_2 : decode cX6_delays 2 = .ok (.iconst 0, 1) := by decide +kernel
theorem dX6_delays_3 : decode cX6_delays 3 = .ok (.istore_n 2, 1) := by decide +kernel
theorem dX6_delays_4 : decode cX6_delays 4 = .ok (.iload_n 2, 1) := by decide +kernel
theorem dX6_delays_5 : decode cX6_delays 5 = .ok (.aload_n 0, 1) := by decide +kernel
theorem dX6_delays_6 : decode cX6_delays 6 = .ok (.getfield 7, 3) := by decide +kernel
theorem dX6_delays_9 : decode cX6_delays 9 = .ok (.iconst 0, 1) := by decide +kernel
theorem dX6_delays_10 : decode cX6_delays 10 = .ok (.iaload, 1) := by decide +kernel
theorem dX6_delays_11 : decode cX6_delays 11 = .ok (.if_icmp .ge 64, 3) := by decide +kernel
theorem dX6_delays_14 : decode cX6_delays 14 = .ok (.iconst 0, 1) := by decide +kernel
theorem dX6_delays_15 : decode cX6_delays 15 = .ok (.istore_n 3, 1) := by decide +kernel
theorem dX6_delays_16 : decode cX6_delays 16 = .ok (.iload_n 3, 1) := by decide +kernel
theorem dX6_delays_17 : decode cX6_delays 17 = .ok (.aload_n 0, 1) := by decide +kernel
theorem dX6_delays_18 : decode cX6_delays 18 = .ok (.getfield 7, 3) := by decide +kernel
theorem dX6_delays_21 : decode cX6_delays 21 = .ok (.iload_n 2, 1) := by decide +kernel
theorem dX6_delays_22 : decode cX6_delays 22 = .ok (.invokestatic 39, 3) := by decide +kernel
theorem dX6_delays_25 : decode cX6_delays 25 = .ok (.bipush 6, 2) := by decide +kernel
theorem dX6_delays_27 : decode cX6_delays 27 = .ok (.iadd, 1) := by decide +kernel
theorem dX6_delays_28 : decode cX6_delays 28 = .ok (.iaload, 1) := by decide +kernel
theorem dX6_delays_29 : decode cX6_delays 29 = .ok (.if_icmp .ge 40, 3) := by decide +kernel
theorem dX6_delays_32 : decode cX6_delays 32 = .ok (.aload_n 0, 1) := by decide +kernel
theorem dX6_delays_33 : decode cX6_delays 33 = .ok (.iload_n 2, 1) := by decide +kernel
theorem dX6_delays_34 : decode cX6_delays 34 = .ok (.iload_n 3, 1) := by decide +kernel
theorem dX6_delays_35 : decode cX6_delays 35 = .ok (.iconst 1, 1) := by decide +kernel
theorem dX6_delays_36 : decode cX6_delays 36 = .ok (.invokevirtual 182, 3) := by decide +kernel
theorem dX6_delays_39 : decode cX6_delays 39 = .ok (.aload_n 0, 1) := by decide +kernel
theorem dX6_delays_40 : decode cX6_delays 40 = .ok (.iload_n 2, 1) := by decide +kernel
theorem dX6_delays_41 : decode cX6_delays 41 = .ok (.iload_n 3, 1) := by decide +kernel
theorem dX6_delays_42 : decode cX6_delays 42 = .ok (.iconst 0, 1) := by decide +kernel
theorem dX6_delays_43 : decode cX6_delays 43 = .ok (.invokevirtual 182, 3) := by decide +kernel
theorem dX6_delays_46 : decode cX6_delays 46 = .ok (.isub, 1) := by decide +kernel
theorem dX6_delays_47 : decode cX6_delays 47 = .ok (.istore 4, 2) := by decide +kernel
theorem dX6_delays_49 : decode cX6_delays 49 = .ok (.iload_n 1, 1) := by decide +kernel
theorem dX6_delays_50 : decode cX6_delays 50 = .ok (.iload 4, 2) := by decide +kernel
theorem dX6_delays_52 : decode cX6_delays 52 = .ok (.ifCond .le 8, 3) := by decide +kernel
theorem dX6_delays_55 : decode cX6_delays 55 = .ok (.iload 4, 2) := by decide +kernel
theorem dX6_delays_57 : decode cX6_delays 57 = .ok (.goto 4, 3) := by decide +kernel
theorem dX6_delays_60 : decode cX6_delays 60 = .ok (.iconst 0, 1) := by decide +kernel
theorem dX6_delays_61 : decode cX6_delays 61 = .ok (.iadd, 1) := by decide +kernel
theorem dX6_delays_62 : decode cX6_delays 62 = .ok (.istore_n 1, 1) := by decide +kernel
theorem dX6_delays_63 : decode cX6_delays 63 = .ok (.iinc 3 1, 3) := by decide +kernel
theorem dX6_delays_66 : decode cX6_delays 66 = .ok (.goto (-50), 3) := by decide +kernel
theorem dX6_delays_69 : decode cX6_delays 69 = .ok (.iinc 2 1, 3) := by decide +kernel
theorem dX6_delays_72 : decode cX6_delays 72 = .ok (.goto (-68), 3) := by decide +kernel
theorem dX6_delays_75 : decode cX6_delays 75 = .ok (.iload_n 1, 1) := by decide +kernel
theorem dX6_delays_76 : decode cX6_delays 76 = .ok (.ireturn, 1) := by decide +kernel
theorem dX6_counted_0 : decode cX6_counted 0 = .ok (.iload_n 1, 1) := by decide +kernel
theorem dX6_counted_1 : decode cX6_counted 1 = .ok (.tableswitch 110 0 8 #[51, 58, 65, 72, 78, 84, 91, 98, 103], 51) := by decide +kernel
theorem dX6_counted_52 : decode cX6_counted 52 = .ok (.aload_n 0, 1) := by decide +kernel
theorem dX6_counted_53 : decode cX6_counted 53 = .ok (.getfield 7, 3) := by decide +kernel
theorem dX6_counted_56 : decode cX6_counted 56 = .ok (.iconst 0, 1) := by decide +kernel
theorem dX6_counted_57 : decode cX6_counted 57 = .ok (.iaload, 1) := by decide +kernel
theorem dX6_counted_58 : decode cX6_counted 58 = .ok (.ireturn, 1) := by decide +kernel
theorem dX6_counted_59 : decode cX6_counted 59 = .ok (.aload_n 0, 1) := by decide +kernel
theorem dX6_counted_60 : decode cX6_counted 60 = .ok (.bipush 9, 2) := by decide +kernel
theorem dX6_counted_62 : decode cX6_counted 62 = .ok (.invokevirtual 189, 3) := by decide +kernel
theorem dX6_counted_65 : decode cX6_counted 65 = .ok (.ireturn, 1) := by decide +kernel
theorem dX6_counted_66 : decode cX6_counted 66 = .ok (.aload_n 0, 1) := by decide +kernel
theorem dX6_counted_67 : decode cX6_counted 67 = .ok (.getfield 7, 3) := by decide +kernel
theorem dX6_counted_70 : decode cX6_counted 70 = .ok (.iconst 1, 1) := by decide +kernel
theorem dX6_counted_71 : decode cX6_counted 71 = .ok (.iaload, 1) := by decide +kernel
theorem dX6_counted_72 : decode cX6_counted 72 = .ok (.ireturn, 1) := by decide +kernel
theorem dX6_counted_73 : decode cX6_counted 73 = .ok (.aload_n 0, 1) := by decide +kernel
theorem dX6_counted_74 : decode cX6_counted 74 = .ok (.iconst 4, 1) := by decide +kernel
theorem dX6_counted_75 : decode cX6_counted 75 = .ok (.invokevirtual 189, 3) := by decide +kernel
theorem dX6_counted_78 : decode cX6_counted 78 = .ok (.ireturn, 1) := by decide +kernel
theorem dX6_counted_79 : decode cX6_counted 79 = .ok (.aload_n 0, 1) := by decide +kernel
theorem dX6_counted_80 : decode cX6_counted 80 = .ok (.iconst 2, 1) := by decide +kernel
theorem dX6_counted_81 : decode cX6_counted 81 = .ok (.invokevirtual 189, 3) := by decide +kernel
theorem dX6_counted_84 : decode cX6_counted 84 = .ok (.ireturn, 1) := by decide +kernel
theorem dX6_counted_85 : decode cX6_counted 85 = .ok (.aload_n 0, 1) := by decide +kernel
theorem dX6_counted_86 : decode cX6_counted 86 = .ok (.bipush 6, 2) := by decide +kernel
theorem dX6_counted_88 : decode cX6_counted 88 = .ok (.invokevirtual 189, 3) := by decide +kernel
theorem dX6_counted_91 : decode cX6_counted 91 = .ok (.ireturn, 1) := by decide +kernel
theorem dX6_counted_92 : decode cX6_counted 92 = .ok (.aload_n 0, 1) := by decide +kernel
theorem dX6_counted_93 : decode cX6_counted 93 = .ok (.bipush 8, 2) := by decide +kernel
theorem dX6_counted_95 : decode cX6_counted 95 = .ok (.invokevirtual 189, 3) := by decide +kernel
theorem dX6_counted_98 : decode cX6_counted 98 = .ok (.ireturn, 1) := by decide +kernel
theorem dX6_counted_99 : decode cX6_counted 99 = .ok (.aload_n 0, 1) := by decide +kernel
theorem dX6_counted_100 : decode cX6_counted 100 = .ok (.invokevirtual 192, 3) := by decide +kernel
theorem dX6_counted_103 : decode cX6_counted 103 = .ok (.ireturn, 1) := by decide +kernel
theorem dX6_counted_104 : decode cX6_counted 104 = .ok (.aload_n 0, 1) := by decide +kernel
theorem dX6_counted_105 : decode cX6_counted 105 = .ok (.getfield 7, 3) := by decide +kernel
theorem dX6_counted_108 : decode cX6_counted 108 = .ok (.iconst 2, 1) := by decide +kernel
theorem dX6_counted_109 : decode cX6_counted 109 = .ok (.iaload, 1) := by decide +kernel
theorem dX6_counted_110 : decode cX6_counted 110 = .ok (.ireturn, 1) := by decide +kernel
theorem dX6_counted_111 : decode cX6_counted 111 = .ok (.aload_n 0, 1) := by decide +kernel
theorem dX6_counted_112 : decode cX6_counted 112 = .ok (.getfield 32, 3) := by decide +kernel
theorem dX6_counted_115 : decode cX6_counted 115 = .ok (.ireturn, 1) := by decide +kernel
theorem dX6_count_0 : decode cX6_count 0 = .ok (.aload_n 0, 1) := by decide +kernel
theorem dX6_count_1 : decode cX6_count 1 = .ok (.iconst 0, 1) := by decide +kernel
theorem dX6_count_2 : decode cX6_count 2 = .ok (.putfield 28, 3) := by decide +kernel
theorem dX6_count_5 : decode cX6_count 5 = .ok (.iload_n 1, 1) := by decide +kernel
theorem dX6_count_6 : decode cX6_count 6 = .ok (.iconst 0, 1) := by decide +kernel
theorem dX6_count_7 : decode cX6_count 7 = .ok (.bipush 9, 2) := by decide +kernel
theorem dX6_count_9 : decode cX6_count 9 = .ok (.invokestatic 35, 3) := by decide +kernel
theorem dX6_count_12 : decode cX6_count 12 = .ok (.ifCond .eq 11, 3) := by decide +kernel
theorem dX6_count_15 : decode cX6_count 15 = .ok (.aload_n 0, 1) := by decide +kernel
theorem dX6_count_16 : decode cX6_count 16 = .ok (.iload_n 1, 1) := by decide +kernel
theorem dX6_count_17 : decode cX6_count 17 = .ok (.invokevirtual 195, 3) := by decide +kernel
theorem dX6_count_20 : decode cX6_count 20 = .ok (.goto 8, 3) := by decide +kernel
theorem dX6_count_23 : decode cX6_count 23 = .ok (.aload_n 0, 1) := by decide +kernel
theorem dX6_count_24 : decode cX6_count 24 = .ok (.iconst 1, 1) := by decide +kernel
theorem dX6_count_25 : decode cX6_count 25 = .ok (.invokevirtual 114, 3) := by decide +kernel
theorem dX6_count_28 : decode cX6_count 28 = .ok (.ireturn, 1) := by decide +kernel
theorem dX6_setting_0 : decode cX6_setting 0 = .ok (.aload_n 0, 1) := by decide +kernel
theorem dX6_setting_1 : decode cX6_setting 1 = .ok (.iconst 0, 1) := by decide +kernel
theorem dX6_setting_2 : decode cX6_setting 2 = .ok (.putfield 28, 3) := by decide +kernel
theorem dX6_setting_5 : decode cX6_setting 5 = .ok (.iload_n 1, 1) := by decide +kernel
theorem dX6_setting_6 : decode cX6_setting 6 = .ok (.iconst 0, 1) := by decide +kernel
theorem dX6_setting_7 : decode cX6_setting 7 = .ok (.iconst 2, 1) := by decide +kernel
theorem dX6_setting_8 : decode cX6_setting 8 = .ok (.invokestatic 35, 3) := by decide +kernel
theorem dX6_setting_11 : decode cX6_setting 11 = .ok (.ifCond .eq 14, 3) := by decide +kernel
theorem dX6_setting_14 : decode cX6_setting 14 = .ok (.aload_n 0, 1) := by decide +kernel
theorem dX6_setting_15 : decode cX6_setting 15 = .ok (.getfield 7, 3) := by decide +kernel
theorem dX6_setting_18 : decode cX6_setting 18 = .ok (.iconst 3, 1) := by decide +kernel
theorem dX6_setting_19 : decode cX6_setting 19 = .ok (.iload_n 1, 1) := by decide +kernel
theorem dX6_setting_20 : decode cX6_setting 20 = .ok (.iadd, 1) := by decide +kernel
theorem dX6_setting_21 : decode cX6_setting 21 = .ok (.iaload, 1) := by decide +kernel
theorem dX6_setting_22 : decode cX6_setting 22 = .ok (.goto 8, 3) := by decide +kernel
theorem dX6_setting_25 : decode cX6_setting 25 = .ok (.aload_n 0, 1) := by decide +kernel
theorem dX6_setting_26 : decode cX6_setting 26 = .ok (.iconst 1, 1) := by decide +kernel
theorem dX6_setting_27 : decode cX6_setting 27 = .ok (.invokevirtual 114, 3) := by decide +kernel
theorem dX6_setting_30 : decode cX6_setting 30 = .ok (.ireturn, 1) := by decide +kernel
theorem dX6_doneOf_0 : decode cX6_doneOf 0 = .ok (.aload_n 0, 1) := by decide +kernel
theorem dX6_doneOf_1 : decode cX6_doneOf 1 = .ok (.iload_n 1, 1) := by decide +kernel
theorem dX6_doneOf_2 : decode cX6_doneOf 2 = .ok (.invokevirtual 129, 3) := by decide +kernel
theorem dX6_doneOf_5 : decode cX6_doneOf 5 = .ok (.ifCond .ne 5, 3) := by decide +kernel
theorem dX6_doneOf_8 : decode cX6_doneOf 8 = .ok (.iconst (-1), 1) := by decide +kernel
theorem dX6_doneOf_9 : decode cX6_doneOf 9 = .ok (.ireturn, 1) := by decide +kernel
theorem dX6_doneOf_10 : decode cX6_doneOf 10 = .ok (.aload_n 0, 1) := by decide +kernel
theorem dX6_doneOf_11 : decode cX6_doneOf 11 = .ok (.invokevirtual 198, 3) := by decide +kernel
theorem dX6_doneOf_14 : decode cX6_doneOf 14 = .ok (.aload_n 0, 1) := by decide +kernel
theorem dX6_doneOf_15 : decode cX6_doneOf 15 = .ok (.iload_n 1, 1) := by decide +kernel
theorem dX6_doneOf_16 : decode cX6_doneOf 16 = .ok (.iload_n 2, 1) := by decide +kernel
theorem dX6_doneOf_17 : decode cX6_doneOf 17 = .ok (.invokevirtual 132, 3) := by decide +kernel
theorem dX6_doneOf_20 : decode cX6_doneOf 20 = .ok (.iload_n 3, 1) := by decide +kernel
theorem dX6_doneOf_21 : decode cX6_doneOf 21 = .ok (.ifCond .ne 10, 3) := by decide +kernel
theorem dX6_doneOf_24 : decode cX6_doneOf 24 = .ok (.aload_n 0, 1) := by decide +kernel
theorem dX6_doneOf_25 : decode cX6_doneOf 25 = .ok (.getfield 93, 3) := by decide +kernel
theorem dX6_doneOf_28 : decode cX6_doneOf 28 = .ok (.goto 51, 3) := by decide +kernel
theorem dX6_doneOf_31 : decode cX6_doneOf 31 = .ok (.iload_n 3, 1) := by decide +kernel
theorem dX6_doneOf_32 : decode cX6_doneOf 32 = .ok (.iconst 1, 1) := by decide +kernel
theorem dX6_doneOf_33 : decode cX6_doneOf 33 = .ok (.if_icmp .ne 10, 3) := by decide +kernel
theorem dX6_doneOf_36 : decode cX6_doneOf 36 = .ok (.aload_n 0, 1) := by decide +kernel
theorem dX6_doneOf_37 : decode cX6_doneOf 37 = .ok (.getfield 90, 3) := by decide +kernel
theorem dX6_doneOf_40 : decode cX6_doneOf 40 = .ok (.goto 39, 3) := by decide +kernel
theorem dX6_doneOf_43 : decode cX6_doneOf 43 = .ok (.iload_n 3, 1) := by decide +kernel
theorem dX6_doneOf_44 : decode cX6_doneOf 44 = .ok (.iconst 2, 1) := by decide +kernel
theorem dX6_doneOf_45 : decode cX6_doneOf 45 = .ok (.if_icmp .ne 10, 3) := by decide +kernel
theorem dX6_doneOf_48 : decode cX6_doneOf 48 = .ok (.aload_n 0, 1) := by decide +kernel
theorem dX6_doneOf_49 : decode cX6_doneOf 49 = .ok (.getfield 80, 3) := by decide +kernel
theorem dX6_doneOf_52 : decode cX6_doneOf 52 = .ok (.goto 27, 3) := by decide +kernel
theorem dX6_doneOf_55 : decode cX6_doneOf 55 = .ok (.iload_n 3, 1) := by decide +kernel
theorem dX6_doneOf_56 : decode cX6_doneOf 56 = .ok (.iconst 3, 1) := by decide +kernel
theorem dX6_doneOf_57 : decode cX6_doneOf 57 = .ok (.if_icmp .ne 17, 3) := by decide +kernel
theorem dX6_doneOf_60 : decode cX6_doneOf 60 = .ok (.aload_n 0, 1) := by decide +kernel
theorem dX6_doneOf_61 : decode cX6_doneOf 61 = .ok (.getfield 7, 3) := by decide +kernel
theorem dX6_doneOf_64 : decode cX6_doneOf 64 = .ok (.iload_n 1, 1) := by decide +kernel
theorem dX6_doneOf_65 : decode cX6_doneOf 65 = .ok (.invokestatic 39, 3) := by decide +kernel
theorem dX6_doneOf_68 : decode cX6_doneOf 68 = .ok (.iconst 2, 1) := by decide +kernel
theorem dX6_doneOf_69 : decode cX6_doneOf 69 = .ok (.iadd, 1) := by decide +kernel
theorem dX6_doneOf_70 : decode cX6_doneOf 70 = .ok (.iaload, 1) := by decide +kernel
theorem dX6_doneOf_71 : decode cX6_doneOf 71 = .ok (.goto 8, 3) := by decide +kernel
theorem dX6_doneOf_74 : decode cX6_doneOf 74 = .ok (.aload_n 0, 1) := by decide +kernel
theorem dX6_doneOf_75 : decode cX6_doneOf 75 = .ok (.iload_n 1, 1) := by decide +kernel
theorem dX6_doneOf_76 : decode cX6_doneOf 76 = .ok (.invokevirtual 170, 3) := by decide +kernel
theorem dX6_doneOf_79 : decode cX6_doneOf 79 = .ok (.istore 4, 2) := by decide +kernel
theorem dX6_doneOf_81 : decode cX6_doneOf 81 = .ok (.aload_n 0, 1) := by decide +kernel
theorem dX6_doneOf_82 : decode cX6_doneOf 82 = .ok (.invokevirtual 201, 3) := by decide +kernel
theorem dX6_doneOf_85 : decode cX6_doneOf 85 = .ok (.iload 4, 2) := by decide +kernel
theorem dX6_doneOf_87 : decode cX6_doneOf 87 = .ok (.ireturn, 1) := by decide +kernel
theorem dX6_ifDone_0 : decode cX6_ifDone 0 = .ok (.aload_n 0, 1) := by decide +kernel
theorem dX6_ifDone_1 : decode cX6_ifDone 1 = .ok (.iconst 0, 1) := by decide +kernel
theorem dX6_ifDone_2 : decode cX6_ifDone 2 = .ok (.putfield 28, 3) := by decide +kernel
theorem dX6_ifDone_5 : decode cX6_ifDone 5 = .ok (.aload_n 0, 1) := by decide +kernel
theorem dX6_ifDone_6 : decode cX6_ifDone 6 = .ok (.iload_n 1, 1) := by decide +kernel
theorem dX6_ifDone_7 : decode cX6_ifDone 7 = .ok (.invokevirtual 123, 3) := by decide +kernel
theorem dX6_ifDone_10 : decode cX6_ifDone 10 = .ok (.ifCond .ne 9, 3) := by decide +kernel
theorem dX6_ifDone_13 : decode cX6_ifDone 13 = .ok (.aload_n 0, 1) := by decide +kernel
theorem dX6_ifDone_14 : decode cX6_ifDone 14 = .ok (.iconst 1, 1) := by decide +kernel
theorem dX6_ifDone_15 : decode cX6_ifDone 15 = .ok (.invokevirtual 114, 3) := by decide +kernel
theorem dX6_ifDone_18 : decode cX6_ifDone 18 = .ok (.ireturn, 1) := by decide +kernel
theorem dX6_ifDone_19 : decode cX6_ifDone 19 = .ok (.iload_n 2, 1) := by decide +kernel
theorem dX6_ifDone_20 : decode cX6_ifDone 20 = .ok (.iconst 0, 1) := by decide +kernel
theorem dX6_ifDone_21 : decode cX6_ifDone 21 = .ok (.sipush 300, 3) := by decide +kernel
theorem dX6_ifDone_24 : decode cX6_ifDone 24 = .ok (.invokestatic 35, 3) := by decide +kernel
theorem dX6_ifDone_27 : decode cX6_ifDone 27 = .ok (.ifCond .eq 22, 3) := by decide +kernel
theorem dX6_ifDone_30 : decode cX6_ifDone 30 = .ok (.iload_n 3, 1) := by decide +kernel
theorem dX6_ifDone_31 : decode cX6_ifDone 31 = .ok (.iconst 0, 1) := by decide +kernel
theorem dX6_ifDone_32 : decode cX6_ifDone 32 = .ok (.iconst 4, 1) := by decide +kernel
theorem dX6_ifDone_33 : decode cX6_ifDone 33 = .ok (.invokestatic 35, 3) := by decide +kernel
theorem dX6_ifDone_36 : decode cX6_ifDone 36 = .ok (.ifCond .eq 13, 3) := by decide +kernel
theorem dX6_ifDone_39 : decode cX6_ifDone 39 = .ok (.aload_n 0, 1) := by decide +kernel
theorem dX6_ifDone_40 : decode cX6_ifDone 40 = .ok (.iload_n 1, 1) := by decide +kernel
theorem dX6_ifDone_41 : decode cX6_ifDone 41 = .ok (.iload_n 2, 1) := by decide +kernel
theorem dX6_ifDone_42 : decode cX6_ifDone 42 = .ok (.iload_n 3, 1) := by decide +kernel
theorem dX6_ifDone_43 : decode cX6_ifDone 43 = .ok (.invokevirtual 204, 3) := by decide +kernel
theorem dX6_ifDone_46 : decode cX6_ifDone 46 = .ok (.goto 8, 3) := by decide +kernel
theorem dX6_ifDone_49 : decode cX6_ifDone 49 = .ok (.aload_n 0, 1) := by decide +kernel
theorem dX6_ifDone_50 : decode cX6_ifDone 50 = .ok (.iconst 2, 1) := by decide +kernel
theorem dX6_ifDone_51 : decode cX6_ifDone 51 = .ok (.invokevirtual 114, 3) := by decide +kernel
theorem dX6_ifDone_54 : decode cX6_ifDone 54 = .ok (.ireturn, 1) := by decide +kernel
theorem dX6_bornBy_0 : decode cX6_bornBy 0 = .ok (.aload_n 0, 1) := by decide +kernel
theorem dX6_bornBy_1 : decode cX6_bornBy 1 = .ok (.iload_n 1, 1) := by decide +kernel
theorem dX6_bornBy_2 : decode cX6_bornBy 2 = .ok (.invokevirtual 43, 3) := by decide +kernel
theorem dX6_bornBy_5 : decode cX6_bornBy 5 = .ok (.ifCond .ne 5, 3) := by decide +kernel
theorem dX6_bornBy_8 : decode cX6_bornBy 8 = .ok (.iconst (-1), 1) := by decide +kernel
theorem dX6_bornBy_9 : decode cX6_bornBy 9 = .ok (.ireturn, 1) := by decide +kernel
theorem dX6_bornBy_10 : decode cX6_bornBy 10 = .ok (.aload_n 0, 1) := by decide +kernel
theorem dX6_bornBy_11 : decode cX6_bornBy 11 = .ok (.invokevirtual 198, 3) := by decide +kernel
theorem dX6_bornBy_14 : decode cX6_bornBy 14 = .ok (.aload_n 0, 1) := by decide +kernel
theorem dX6_bornBy_15 : decode cX6_bornBy 15 = .ok (.iload_n 1, 1) := by decide +kernel
theorem dX6_bornBy_16 : decode cX6_bornBy 16 = .ok (.ldc 207, 2) := by decide +kernel
theorem dX6_bornBy_18 : decode cX6_bornBy 18 = .ok (.invokevirtual 105, 3) := by decide +kernel
theorem dX6_bornBy_21 : decode cX6_bornBy 21 = .ok (.ldc 207, 2) := by decide +kernel
theorem dX6_bornBy_23 : decode cX6_bornBy 23 = .ok (.aload_n 0, 1) := by decide +kernel
theorem dX6_bornBy_24 : decode cX6_bornBy 24 = .ok (.getfield 93, 3) := by decide +kernel
theorem dX6_bornBy_27 : decode cX6_bornBy 27 = .ok (.isub, 1) := by decide +kernel
theorem dX6_bornBy_28 : decode cX6_bornBy 28 = .ok (.istore_n 2, 1) := by decide +kernel
theorem dX6_bornBy_29 : decode cX6_bornBy 29 = .ok (.aload_n 0, 1) := by decide +kernel
theorem dX6_bornBy_30 : decode cX6_bornBy 30 = .ok (.invokevirtual 201, 3) := by decide +kernel
theorem dX6_bornBy_33 : decode cX6_bornBy 33 = .ok (.iload_n 2, 1) := by decide +kernel
theorem dX6_bornBy_34 : decode cX6_bornBy 34 = .ok (.ireturn, 1) := by decide +kernel
theorem dX6_bears_0 : decode cX6_bears 0 = .ok (.aload_n 0, 1) := by decide +kernel
theorem dX6_bears_1 : decode cX6_bears 1 = .ok (.iconst 0, 1) := by decide +kernel
theorem dX6_bears_2 : decode cX6_bears 2 = .ok (.putfield 28, 3) := by decide +kernel
theorem dX6_bears_5 : decode cX6_bears 5 = .ok (.aload_n 0, 1) := by decide +kernel
theorem dX6_bears_6 : decode cX6_bears 6 = .ok (.iload_n 1, 1) := by decide +kernel
theorem dX6_bears_7 : decode cX6_bears 7 = .ok (.invokevirtual 123, 3) := by decide +kernel
theorem dX6_bears_10 : decode cX6_bears 10 = .ok (.ifCond .eq 11, 3) := by decide +kernel
theorem dX6_bears_13 : decode cX6_bears 13 = .ok (.aload_n 0, 1) := by decide +kernel
theorem dX6_bears_14 : decode cX6_bears 14 = .ok (.iload_n 1, 1) := by decide +kernel
theorem dX6_bears_15 : decode cX6_bears 15 = .ok (.invokevirtual 208, 3) := by decide +kernel
theorem dX6_bears_18 : decode cX6_bears 18 = .ok (.goto 8, 3) := by decide +kernel
theorem dX6_bears_21 : decode cX6_bears 21 = .ok (.aload_n 0, 1) := by decide +kernel
theorem dX6_bears_22 : decode cX6_bears 22 = .ok (.iconst 1, 1) := by decide +kernel
theorem dX6_bears_23 : decode cX6_bears 23 = .ok (.invokevirtual 114, 3) := by decide +kernel
theorem dX6_bears_26 : decode cX6_bears 26 = .ok (.ireturn, 1) := by decide +kernel
theorem dX6_weakestOf_0 : decode cX6_weakestOf 0 = .ok (.iconst (-1), 1) := by decide +kernel
theorem dX6_weakestOf_1 : decode cX6_weakestOf 1 = .ok (.istore_n 1, 1) := by decide +kernel
theorem dX6_weakestOf_2 : decode cX6_weakestOf 2 = .ok (.iconst 0, 1) := by decide +kernel
theorem dX6_weakestOf_3 : decode cX6_weakestOf 3 = .ok (.istore_n 2, 1) := by decide +kernel
theorem dX6_weakestOf_4 : decode cX6_weakestOf 4 = .ok (.iconst 0, 1) := by decide +kernel
theorem dX6_weakestOf_5 : decode cX6_weakestOf 5 = .ok (.istore_n 3, 1) := by decide +kernel
theorem dX6_weakestOf_6 : decode cX6_weakestOf 6 = .ok (.iload_n 3, 1) := by decide +kernel
theorem dX6_weakestOf_7 : decode cX6_weakestOf 7 = .ok (.aload_n 0, 1) := by decide +kernel
theorem dX6_weakestOf_8 : decode cX6_weakestOf 8 = .ok (.getfield 7, 3) := by decide +kernel
theorem dX6_weakestOf_11 : decode cX6_weakestOf 11 = .ok (.iconst 0, 1) := by decide +kernel
theorem dX6_weakestOf_12 : decode cX6_weakestOf 12 = .ok (.iaload, 1) := by decide +kernel
theorem dX6_weakestOf_13 : decode cX6_weakestOf 13 = .ok (.if_icmp .ge 63, 3) := by decide +kernel
theorem dX6_weakestOf_16 : decode cX6_weakestOf 16 = .ok (.aload_n 0, 1) := by decide +kernel
theorem dX6_weakestOf_17 : decode cX6_weakestOf 17 = .ok (.iload_n 3, 1) := by decide +kernel
theorem dX6_weakestOf_18 : decode cX6_weakestOf 18 = .ok (.invokevirtual 208, 3) := by decide +kernel
theorem dX6_weakestOf_21 : decode cX6_weakestOf 21 = .ok (.istore 4, 2) := by decide +kernel
theorem dX6_weakestOf_23 : decode cX6_weakestOf 23 = .ok (.iload 4, 2) := by decide +kernel
theorem dX6_weakestOf_25 : decode cX6_weakestOf 25 = .ok (.iconst (-1), 1) := by decide +kernel
theorem dX6_weakestOf_26 : decode cX6_weakestOf 26 = .ok (.if_icmp .eq 18, 3) := by decide +kernel
theorem dX6_weakestOf_29 : decode cX6_weakestOf 29 = .ok (.iload_n 1, 1) := by decide +kernel
theorem dX6_weakestOf_30 : decode cX6_weakestOf 30 = .ok (.iconst (-1), 1) := by decide +kernel
theorem dX6_weakestOf_31 : decode cX6_weakestOf 31 = .ok (.if_icmp .eq 9, 3) := by decide +kernel
theorem dX6_weakestOf_34 : decode cX6_weakestOf 34 = .ok (.iload 4, 2) := by decide +kernel
theorem dX6_weakestOf_36 : decode cX6_weakestOf 36 = .ok (.iload_n 2, 1) := by decide +kernel
theorem dX6_weakestOf_37 : decode cX6_weakestOf 37 = .ok (.if_icmp .ge 7, 3) := by decide +kernel
theorem dX6_weakestOf_40 : decode cX6_weakestOf 40 = .ok (.iconst 1, 1) := by decide +kernel
theorem dX6_weakestOf_41 : decode cX6_weakestOf 41 = .ok (.goto 4, 3) := by decide +kernel
theorem dX6_weakestOf_44 : decode cX6_weakestOf 44 = .ok (.iconst 0, 1) := by decide +kernel
theorem dX6_weakestOf_45 : decode cX6_weakestOf 45 = .ok (.istore 5, 2) := by decide +kernel
theorem dX6_weakestOf_47 : decode cX6_weakestOf 47 = .ok (.iload 5, 2) := by decide +kernel
theorem dX6_weakestOf_49 : decode cX6_weakestOf 49 = .ok (.ifCond .eq 7, 3) := by decide +kernel
theorem dX6_weakestOf_52 : decode cX6_weakestOf 52 = .ok (.iload_n 3, 1) := by decide +kernel
theorem dX6_weakestOf_53 : decode cX6_weakestOf 53 = .ok (.goto 4, 3) := by decide +kernel
theorem dX6_weakestOf_56 : decode cX6_weakestOf 56 = .ok (.iload_n 1, 1) := by decide +kernel
theorem dX6_weakestOf_57 : decode cX6_weakestOf 57 = .ok (.istore_n 1, 1) := by decide +kernel
theorem dX6_weakestOf_58 : decode cX6_weakestOf 58 = .ok (.iload 5, 2) := by decide +kernel
theorem dX6_weakestOf_60 : decode cX6_weakestOf 60 = .ok (.ifCond .eq 8, 3) := by decide +kernel
theorem dX6_weakestOf_63 : decode cX6_weakestOf 63 = .ok (.iload 4, 2) := by decide +kernel
theorem dX6_weakestOf_65 : decode cX6_weakestOf 65 = .ok (.goto 4, 3) := by decide +kernel
theorem dX6_weakestOf_68 : decode cX6_weakestOf 68 = .ok (.iload_n 2, 1) := by decide +kernel
theorem dX6_weakestOf_69 : decode cX6_weakestOf 69 = .ok (.istore_n 2, 1) := by decide +kernel
theorem dX6_weakestOf_70 : decode cX6_weakestOf 70 = .ok (.iinc 3 1, 3) := by decide +kernel
theorem dX6_weakestOf_73 : decode cX6_weakestOf 73 = .ok (.goto (-67), 3) := by decide +kernel
theorem dX6_weakestOf_76 : decode cX6_weakestOf 76 = .ok (.iload_n 1, 1) := by decide +kernel
theorem dX6_weakestOf_77 : decode cX6_weakestOf 77 = .ok (.ireturn, 1) := by decide +kernel
theorem dX6_weakest_0 : decode cX6_weakest 0 = .ok (.aload_n 0, 1) := by decide +kernel
theorem dX6_weakest_1 : decode cX6_weakest 1 = .ok (.iconst 0, 1) := by decide +kernel
theorem dX6_weakest_2 : decode cX6_weakest 2 = .ok (.putfield 28, 3) := by decide +kernel
theorem dX6_weakest_5 : decode cX6_weakest 5 = .ok (.aload_n 0, 1) := by decide +kernel
theorem dX6_weakest_6 : decode cX6_weakest 6 = .ok (.invokevirtual 211, 3) := by decide +kernel
theorem dX6_weakest_9 : decode cX6_weakest 9 = .ok (.ireturn, 1) := by decide +kernel
theorem dX6_leastLeft_0 : decode cX6_leastLeft 0 = .ok (.ldc 207, 2) := by decide +kernel
theorem dX6_leastLeft_2 : decode cX6_leastLeft 2 = .ok (.istore_n 1, 1) := by decide +kernel
theorem dX6_leastLeft_3 : decode cX6_leastLeft 3 = .ok (.iconst 0, 1) := by decide +kernel
theorem dX6_leastLeft_4 : decode cX6_leastLeft 4 = .ok (.istore_n 2, 1) := by decide +kernel
theorem dX6_leastLeft_5 : decode cX6_leastLeft 5 = .ok (.iload_n 2, 1) := by decide +kernel
theorem dX6_leastLeft_6 : decode cX6_leastLeft 6 = .ok (.aload_n 0, 1) := by decide +kernel
theorem dX6_leastLeft_7 : decode cX6_leastLeft 7 = .ok (.getfield 7, 3) := by decide +kernel
theorem dX6_leastLeft_10 : decode cX6_leastLeft 10 = .ok (.iconst 0, 1) := by decide +kernel
theorem dX6_leastLeft_11 : decode cX6_leastLeft 11 = .ok (.iaload, 1) := by decide +kernel
theorem dX6_leastLeft_12 : decode cX6_leastLeft 12 = .ok (.if_icmp .ge 48, 3) := by decide +kernel
theorem dX6_leastLeft_15 : decode cX6_leastLeft 15 = .ok (.aload_n 0, 1) := by decide +kernel
theorem dX6_leastLeft_16 : decode cX6_leastLeft 16 = .ok (.iload_n 2, 1) := by decide +kernel
theorem dX6_leastLeft_17 : decode cX6_leastLeft 17 = .ok (.invokevirtual 43, 3) := by decide +kernel
theorem dX6_leastLeft_20 : decode cX6_leastLeft 20 = .ok (.ifCond .eq 32, 3) := by decide +kernel
theorem dX6_leastLeft_23 : decode cX6_leastLeft 23 = .ok (.aload_n 0, 1) := by decide +kernel
theorem dX6_leastLeft_24 : decode cX6_leastLeft 24 = .ok (.getfield 7, 3) := by decide +kernel
theorem dX6_leastLeft_27 : decode cX6_leastLeft 27 = .ok (.iload_n 2, 1) := by decide +kernel
theorem dX6_leastLeft_28 : decode cX6_leastLeft 28 = .ok (.invokestatic 39, 3) := by decide +kernel
theorem dX6_leastLeft_31 : decode cX6_leastLeft 31 = .ok (.iconst 2, 1) := by decide +kernel
theorem dX6_leastLeft_32 : decode cX6_leastLeft 32 = .ok (.iadd, 1) := by decide +kernel
theorem dX6_leastLeft_33 : decode cX6_leastLeft 33 = .ok (.iaload, 1) := by decide +kernel
theorem dX6_leastLeft_34 : decode cX6_leastLeft 34 = .ok (.iload_n 1, 1) := by decide +kernel
theorem dX6_leastLeft_35 : decode cX6_leastLeft 35 = .ok (.if_icmp .ge 17, 3) := by decide +kernel
theorem dX6_leastLeft_38 : decode cX6_leastLeft 38 = .ok (.aload_n 0, 1) := by decide +kernel
theorem dX6_leastLeft_39 : decode cX6_leastLeft 39 = .ok (.getfield 7, 3) := by decide +kernel
theorem dX6_leastLeft_42 : decode cX6_leastLeft 42 = .ok (.iload_n 2, 1) := by decide +kernel
theorem dX6_leastLeft_43 : decode cX6_leastLeft 43 = .ok (.invokestatic 39, 3) := by decide +kernel
theorem dX6_leastLeft_46 : decode cX6_leastLeft 46 = .ok (.iconst 2, 1) := by decide +kernel
theorem dX6_leastLeft_47 : decode cX6_leastLeft 47 = .ok (.iadd, 1) := by decide +kernel
theorem dX6_leastLeft_48 : decode cX6_leastLeft 48 = .ok (.iaload, 1) := by decide +kernel
theorem dX6_leastLeft_49 : decode cX6_leastLeft 49 = .ok (.goto 4, 3) := by decide +kernel
theorem dX6_leastLeft_52 : decode cX6_leastLeft 52 = .ok (.iload_n 1, 1) := by decide +kernel
theorem dX6_leastLeft_53 : decode cX6_leastLeft 53 = .ok (.istore_n 1, 1) := by decide +kernel
theorem dX6_leastLeft_54 : decode cX6_leastLeft 54 = .ok (.iinc 2 1, 3) := by decide +kernel
theorem dX6_leastLeft_57 : decode cX6_leastLeft 57 = .ok (.goto (-52), 3) := by decide +kernel
theorem dX6_leastLeft_60 : decode cX6_leastLeft 60 = .ok (.iload_n 1, 1) := by decide +kernel
theorem dX6_leastLeft_61 : decode cX6_leastLeft 61 = .ok (.ireturn, 1) := by decide +kernel
theorem dX6_ruleOf_0 : decode cX6_ruleOf 0 = .ok (.aload_n 0, 1) := by decide +kernel
theorem dX6_ruleOf_1 : decode cX6_ruleOf 1 = .ok (.iload_n 1, 1) := by decide +kernel
theorem dX6_ruleOf_2 : decode cX6_ruleOf 2 = .ok (.invokevirtual 129, 3) := by decide +kernel
theorem dX6_ruleOf_5 : decode cX6_ruleOf 5 = .ok (.ifCond .ne 5, 3) := by decide +kernel
theorem dX6_ruleOf_8 : decode cX6_ruleOf 8 = .ok (.iconst (-1), 1) := by decide +kernel
theorem dX6_ruleOf_9 : decode cX6_ruleOf 9 = .ok (.ireturn, 1) := by decide +kernel
theorem dX6_ruleOf_10 : decode cX6_ruleOf 10 = .ok (.iconst (-1), 1) := by decide +kernel
theorem dX6_ruleOf_11 : decode cX6_ruleOf 11 = .ok (.istore_n 3, 1) := by decide +kernel
theorem dX6_ruleOf_12 : decode cX6_ruleOf 12 = .ok (.iconst (-1), 1) := by decide +kernel
theorem dX6_ruleOf_13 : decode cX6_ruleOf 13 = .ok (.istore 4, 2) := by decide +kernel
theorem dX6_ruleOf_15 : decode cX6_ruleOf 15 = .ok (.iconst 0, 1) := by decide +kernel
theorem dX6_ruleOf_16 : decode cX6_ruleOf 16 = .ok (.istore 5, 2) := by decide +kernel
theorem dX6_ruleOf_18 : decode cX6_ruleOf 18 = .ok (.iload 5, 2) := by decide +kernel
theorem dX6_ruleOf_20 : decode cX6_ruleOf 20 = .ok (.iconst 3, 1) := by decide +kernel
theorem dX6_ruleOf_21 : decode cX6_ruleOf 21 = .ok (.if_icmp .ge 67, 3) := by decide +kernel
theorem dX6_ruleOf_24 : decode cX6_ruleOf 24 = .ok (.aload_n 0, 1) := by decide +kernel
theorem dX6_ruleOf_25 : decode cX6_ruleOf 25 = .ok (.invokevirtual 198, 3) := by decide +kernel
theorem dX6_ruleOf_28 : decode cX6_ruleOf 28 = .ok (.aload_n 0, 1) := by decide +kernel
theorem dX6_ruleOf_29 : decode cX6_ruleOf 29 = .ok (.getfield 7, 3) := by decide +kernel
theorem dX6_ruleOf_32 : decode cX6_ruleOf 32 = .ok (.iconst 3, 1) := by decide +kernel
theorem dX6_ruleOf_33 : decode cX6_ruleOf 33 = .ok (.iload 5, 2) := by decide +kernel
theorem dX6_ruleOf_35 : decode cX6_ruleOf 35 = .ok (.iastore, 1) := by decide +kernel
theorem dX6_ruleOf_36 : decode cX6_ruleOf 36 = .ok (.aload_n 0, 1) := by decide +kernel
theorem dX6_ruleOf_37 : decode cX6_ruleOf 37 = .ok (.iload_n 1, 1) := by decide +kernel
theorem dX6_ruleOf_38 : decode cX6_ruleOf 38 = .ok (.iload_n 2, 1) := by decide +kernel
theorem dX6_ruleOf_39 : decode cX6_ruleOf 39 = .ok (.invokevirtual 132, 3) := by decide +kernel
theorem dX6_ruleOf_42 : decode cX6_ruleOf 42 = .ok (.aload_n 0, 1) := by decide +kernel
theorem dX6_ruleOf_43 : decode cX6_ruleOf 43 = .ok (.invokevirtual 214, 3) := by decide +kernel
theorem dX6_ruleOf_46 : decode cX6_ruleOf 46 = .ok (.istore 6, 2) := by decide +kernel
theorem dX6_ruleOf_48 : decode cX6_ruleOf 48 = .ok (.aload_n 0, 1) := by decide +kernel
theorem dX6_ruleOf_49 : decode cX6_ruleOf 49 = .ok (.invokevirtual 201, 3) := by decide +kernel
theorem dX6_ruleOf_52 : decode cX6_ruleOf 52 = .ok (.iload 6, 2) := by decide +kernel
theorem dX6_ruleOf_54 : decode cX6_ruleOf 54 = .ok (.iload 4, 2) := by decide +kernel
theorem dX6_ruleOf_56 : decode cX6_ruleOf 56 = .ok (.if_icmp .le 8, 3) := by decide +kernel
theorem dX6_ruleOf_59 : decode cX6_ruleOf 59 = .ok (.iload 5, 2) := by decide +kernel
theorem dX6_ruleOf_61 : decode cX6_ruleOf 61 = .ok (.goto 4, 3) := by decide +kernel
theorem dX6_ruleOf_64 : decode cX6_ruleOf 64 = .ok (.iload_n 3, 1) := by decide +kernel
theorem dX6_ruleOf_65 : decode cX6_ruleOf 65 = .ok (.istore_n 3, 1) := by decide +kernel
theorem dX6_ruleOf_66 : decode cX6_ruleOf 66 = .ok (.iload 6, 2) := by decide +kernel
theorem dX6_ruleOf_68 : decode cX6_ruleOf 68 = .ok (.iload 4, 2) := by decide +kernel
theorem dX6_ruleOf_70 : decode cX6_ruleOf 70 = .ok (.if_icmp .le 8, 3) := by decide +kernel
theorem dX6_ruleOf_73 : decode cX6_ruleOf 73 = .ok (.iload 6, 2) := by decide +kernel
theorem dX6_ruleOf_75 : decode cX6_ruleOf 75 = .ok (.goto 5, 3) := by decide +kernel
theorem dX6_ruleOf_78 : decode cX6_ruleOf 78 = .ok (.iload 4, 2) := by decide +kernel
theorem dX6_ruleOf_80 : decode cX6_ruleOf 80 = .ok (.istore 4, 2) := by decide +kernel
theorem dX6_ruleOf_82 : decode cX6_ruleOf 82 = .ok (.iinc 5 1, 3) := by decide +kernel
theorem dX6_ruleOf_85 : decode cX6_ruleOf 85 = .ok (.goto (-67), 3) := by decide +kernel
theorem dX6_ruleOf_88 : decode cX6_ruleOf 88 = .ok (.iload_n 3, 1) := by decide +kernel
theorem dX6_ruleOf_89 : decode cX6_ruleOf 89 = .ok (.ireturn, 1) := by decide +kernel
theorem dX6_bestRule_0 : decode cX6_bestRule 0 = .ok (.aload_n 0, 1) := by decide +kernel
theorem dX6_bestRule_1 : decode cX6_bestRule 1 = .ok (.iconst 0, 1) := by decide +kernel
theorem dX6_bestRule_2 : decode cX6_bestRule 2 = .ok (.putfield 28, 3) := by decide +kernel
theorem dX6_bestRule_5 : decode cX6_bestRule 5 = .ok (.aload_n 0, 1) := by decide +kernel
theorem dX6_bestRule_6 : decode cX6_bestRule 6 = .ok (.iload_n 1, 1) := by decide +kernel
theorem dX6_bestRule_7 : decode cX6_bestRule 7 = .ok (.invokevirtual 123, 3) := by decide +kernel
theorem dX6_bestRule_10 : decode cX6_bestRule 10 = .ok (.ifCond .ne 9, 3) := by decide +kernel
theorem dX6_bestRule_13 : decode cX6_bestRule 13 = .ok (.aload_n 0, 1) := by decide +kernel
theorem dX6_bestRule_14 : decode cX6_bestRule 14 = .ok (.iconst 1, 1) := by decide +kernel
theorem dX6_bestRule_15 : decode cX6_bestRule 15 = .ok (.invokevirtual 114, 3) := by decide +kernel
theorem dX6_bestRule_18 : decode cX6_bestRule 18 = .ok (.ireturn, 1) := by decide +kernel
theorem dX6_bestRule_19 : decode cX6_bestRule 19 = .ok (.iload_n 2, 1) := by decide +kernel
theorem dX6_bestRule_20 : decode cX6_bestRule 20 = .ok (.iconst 0, 1) := by decide +kernel
theorem dX6_bestRule_21 : decode cX6_bestRule 21 = .ok (.sipush 300, 3) := by decide +kernel
theorem dX6_bestRule_24 : decode cX6_bestRule 24 = .ok (.invokestatic 35, 3) := by decide +kernel
theorem dX6_bestRule_27 : decode cX6_bestRule 27 = .ok (.ifCond .eq 12, 3) := by decide +kernel
theorem dX6_bestRule_30 : decode cX6_bestRule 30 = .ok (.aload_n 0, 1) := by decide +kernel
theorem dX6_bestRule_31 : decode cX6_bestRule 31 = .ok (.iload_n 1, 1) := by decide +kernel
theorem dX6_bestRule_32 : decode cX6_bestRule 32 = .ok (.iload_n 2, 1) := by decide +kernel
theorem dX6_bestRule_33 : decode cX6_bestRule 33 = .ok (.invokevirtual 217, 3) := by decide +kernel
theorem dX6_bestRule_36 : decode cX6_bestRule 36 = .ok (.goto 8, 3) := by decide +kernel
theorem dX6_bestRule_39 : decode cX6_bestRule 39 = .ok (.aload_n 0, 1) := by decide +kernel
theorem dX6_bestRule_40 : decode cX6_bestRule 40 = .ok (.iconst 2, 1) := by decide +kernel
theorem dX6_bestRule_41 : decode cX6_bestRule 41 = .ok (.invokevirtual 114, 3) := by decide +kernel
theorem dX6_bestRule_44 : decode cX6_bestRule 44 = .ok (.ireturn, 1) := by decide +kernel
theorem dX6_shareOf_0 : decode cX6_shareOf 0 = .ok (.aload_n 0, 1) := by decide +kernel
theorem dX6_shareOf_1 : decode cX6_shareOf 1 = .ok (.invokevirtual 192, 3) := by decide +kernel
theorem dX6_shareOf_4 : decode cX6_shareOf 4 = .ok (.istore_n 1, 1) := by decide +kernel
theorem dX6_shareOf_5 : decode cX6_shareOf 5 = .ok (.iload_n 1, 1) := by decide +kernel
theorem dX6_shareOf_6 : decode cX6_shareOf 6 = .ok (.ifCond .ne 7, 3) := by decide +kernel
theorem dX6_shareOf_9 : decode cX6_shareOf 9 = .ok (.dconst 0, 1) := by decide +kernel
theorem dX6_shareOf_10 : decode cX6_shareOf 10 = .ok (.goto 13, 3) := by decide +kernel
theorem dX6_shareOf_13 : decode cX6_shareOf 13 = .ok (.aload_n 0, 1) := by decide +kernel
theorem dX6_shareOf_14 : decode cX6_shareOf 14 = .ok (.bipush 6, 2) := by decide +kernel
theorem dX6_shareOf_16 : decode cX6_shareOf 16 = .ok (.invokevirtual 189, 3) := by decide +kernel
theorem dX6_shareOf_19 : decode cX6_shareOf 19 = .ok (.i2d, 1) := by decide +kernel
theorem dX6_shareOf_20 : decode cX6_shareOf 20 = .ok (.iload_n 1, 1) := by decide +kernel
theorem dX6_shareOf_21 : decode cX6_shareOf 21 = .ok (.i2d, 1) := by decide +kernel
theorem dX6_shareOf_22 : decode cX6_shareOf 22 = .ok (.ddiv, 1) := by decide +kernel
theorem dX6_shareOf_23 : decode cX6_shareOf 23 = .ok (.dreturn, 1) := by decide +kernel
theorem dX6_lateShare_0 : decode cX6_lateShare 0 = .ok (.aload_n 0, 1) := by decide +kernel
theorem dX6_lateShare_1 : decode cX6_lateShare 1 = .ok (.iconst 0, 1) := by decide +kernel
theorem dX6_lateShare_2 : decode cX6_lateShare 2 = .ok (.putfield 28, 3) := by decide +kernel
theorem dX6_lateShare_5 : decode cX6_lateShare 5 = .ok (.aload_n 0, 1) := by decide +kernel
theorem dX6_lateShare_6 : decode cX6_lateShare 6 = .ok (.invokevirtual 220, 3) := by decide +kernel
theorem dX6_lateShare_9 : decode cX6_lateShare 9 = .ok (.dreturn, 1) := by decide +kernel
theorem dX6_mix_0 : decode cX6_mix 0 = .ok (.aload_n 0, 1) := by decide +kernel
theorem dX6_mix_1 : decode cX6_mix 1 = .ok (.ldc2_w 224, 3) := by decide +kernel
theorem dX6_mix_4 : decode cX6_mix 4 = .ok (.aload_n 0, 1) := by decide +kernel
theorem dX6_mix_5 : decode cX6_mix 5 = .ok (.getfield 226, 3) := by decide +kernel
theorem dX6_mix_8 : decode cX6_mix 8 = .ok (.lmul, 1) := by decide +kernel
theorem dX6_mix_9 : decode cX6_mix 9 = .ok (.lload_n 1, 1) := by decide +kernel
theorem dX6_mix_10 : decode cX6_mix 10 = .ok (.ladd, 1) := by decide +kernel
theorem dX6_mix_11 : decode cX6_mix 11 = .ok (.putfield 226, 3) := by decide +kernel
theorem dX6_mix_14 : decode cX6_mix 14 = .ok (.return_, 1) := by decide +kernel
theorem dX6_mixProject_0 : decode cX6_mixProject 0 = .ok (.iconst 0, 1) := by decide +kernel
theorem dX6_mixProject_1 : decode cX6_mixProject 1 = .ok (.istore_n 2, 1) := by decide +kernel
theorem dX6_mixProject_2 : decode cX6_mixProject 2 = .ok (.iload_n 2, 1) := by decide +kernel
theorem dX6_mixProject_3 : decode cX6_mixProject 3 = .ok (.bipush 15, 2) := by decide +kernel
theorem dX6_mixProject_5 : decode cX6_mixProject 5 = .ok (.if_icmp .ge 20, 3) := by decide +kernel
theorem dX6_mixProject_8 : decode cX6_mixProject 8 = .ok (.aload_n 0, 1) := by decide +kernel
theorem dX6_mixProject_9 : decode cX6_mixProject 9 = .ok (.aload_n 0, 1) := by decide +kernel
theorem dX6_mixProject_10 : decode cX6_mixProject 10 = .ok (.iload_n 1, 1) := by decide +kernel
theorem dX6_mixProject_11 : decode cX6_mixProject 11 = .ok (.iload_n 2, 1) := by decide +kernel
theorem dX6_mixProject_12 : decode cX6_mixProject 12 = .ok (.invokevirtual 179, 3) := by decide +kernel
theorem dX6_mixProject_15 : decode cX6_mixProject 15 = .ok (.i2l, 1) := by decide +kernel
theorem dX6_mixProject_16 : decode cX6_mixProject 16 = .ok (.invokevirtual 230, 3) := by decide +kernel
theorem dX6_mixProject_19 : decode cX6_mixProject 19 = .ok (.iinc 2 1, 3) := by decide +kernel
theorem dX6_mixProject_22 : decode cX6_mixProject 22 = .ok (.goto (-20), 3) := by decide +kernel
theorem dX6_mixProject_25 : decode cX6_mixProject 25 = .ok (.iconst 0, 1) := by decide +kernel
theorem dX6_mixProject_26 : decode cX6_mixProject 26 = .ok (.istore_n 2, 1) := by decide +kernel
theorem dX6_mixProject_27 : decode cX6_mixProject 27 = .ok (.iload_n 2, 1) := by decide +kernel
theorem dX6_mixProject_28 : decode cX6_mixProject 28 = .ok (.aload_n 0, 1) := by decide +kernel
theorem dX6_mixProject_29 : decode cX6_mixProject 29 = .ok (.getfield 7, 3) := by decide +kernel
theorem dX6_mixProject_32 : decode cX6_mixProject 32 = .ok (.iload_n 1, 1) := by decide +kernel
theorem dX6_mixProject_33 : decode cX6_mixProject 33 = .ok (.invokestatic 39, 3) := by decide +kernel
theorem dX6_mixProject_36 : decode cX6_mixProject 36 = .ok (.iconst 5, 1) := by decide +kernel
theorem dX6_mixProject_37 : decode cX6_mixProject 37 = .ok (.iadd, 1) := by decide +kernel
theorem dX6_mixProject_38 : decode cX6_mixProject 38 = .ok (.iaload, 1) := by decide +kernel
theorem dX6_mixProject_39 : decode cX6_mixProject 39 = .ok (.if_icmp .ge 35, 3) := by decide +kernel
theorem dX6_mixProject_42 : decode cX6_mixProject 42 = .ok (.iconst 0, 1) := by decide +kernel
theorem dX6_mixProject_43 : decode cX6_mixProject 43 = .ok (.istore_n 3, 1) := by decide +kernel
theorem dX6_mixProject_44 : decode cX6_mixProject 44 = .ok (.iload_n 3, 1) := by decide +kernel
theorem dX6_mixProject_45 : decode cX6_mixProject 45 = .ok (.bipush 6, 2) := by decide +kernel
theorem dX6_mixProject_47 : decode cX6_mixProject 47 = .ok (.if_icmp .ge 21, 3) := by decide +kernel
theorem dX6_mixProject_50 : decode cX6_mixProject 50 = .ok (.aload_n 0, 1) := by decide +kernel
theorem dX6_mixProject_51 : decode cX6_mixProject 51 = .ok (.aload_n 0, 1) := by decide +kernel
theorem dX6_mixProject_52 : decode cX6_mixProject 52 = .ok (.iload_n 1, 1) := by decide +kernel
theorem dX6_mixProject_53 : decode cX6_mixProject 53 = .ok (.iload_n 2, 1) := by decide +kernel
theorem dX6_mixProject_54 : decode cX6_mixProject 54 = .ok (.iload_n 3, 1) := by decide +kernel
theorem dX6_mixProject_55 : decode cX6_mixProject 55 = .ok (.invokevirtual 182, 3) := by decide +kernel
theorem dX6_mixProject_58 : decode cX6_mixProject 58 = .ok (.i2l, 1) := by decide +kernel
theorem dX6_mixProject_59 : decode cX6_mixProject 59 = .ok (.invokevirtual 230, 3) := by decide +kernel
theorem dX6_mixProject_62 : decode cX6_mixProject 62 = .ok (.iinc 3 1, 3) := by decide +kernel
theorem dX6_mixProject_65 : decode cX6_mixProject 65 = .ok (.goto (-21), 3) := by decide +kernel
theorem dX6_mixProject_68 : decode cX6_mixProject 68 = .ok (.iinc 2 1, 3) := by decide +kernel
theorem dX6_mixProject_71 : decode cX6_mixProject 71 = .ok (.goto (-44), 3) := by decide +kernel
theorem dX6_mixProject_74 : decode cX6_mixProject 74 = .ok (.iconst 0, 1) := by decide +kernel
theorem dX6_mixProject_75 : decode cX6_mixProject 75 = .ok (.istore_n 2, 1) := by decide +kernel
theorem dX6_mixProject_76 : decode cX6_mixProject 76 = .ok (.iload_n 2, 1) := by decide +kernel
theorem dX6_mixProject_77 : decode cX6_mixProject 77 = .ok (.iconst 3, 1) := by decide +kernel
theorem dX6_mixProject_78 : decode cX6_mixProject 78 = .ok (.if_icmp .ge 20, 3) := by decide +kernel
theorem dX6_mixProject_81 : decode cX6_mixProject 81 = .ok (.aload_n 0, 1) := by decide +kernel
theorem dX6_mixProject_82 : decode cX6_mixProject 82 = .ok (.aload_n 0, 1) := by decide +kernel
theorem dX6_mixProject_83 : decode cX6_mixProject 83 = .ok (.iload_n 1, 1) := by decide +kernel
theorem dX6_mixProject_84 : decode cX6_mixProject 84 = .ok (.iload_n 2, 1) := by decide +kernel
theorem dX6_mixProject_85 : decode cX6_mixProject 85 = .ok (.invokevirtual 186, 3) := by decide +kernel
theorem dX6_mixProject_88 : decode cX6_mixProject 88 = .ok (.i2l, 1) := by decide +kernel
theorem dX6_mixProject_89 : decode cX6_mixProject 89 = .ok (.invokevirtual 230, 3) := by decide +kernel
theorem dX6_mixProject_92 : decode cX6_mixProject 92 = .ok (.iinc 2 1, 3) := by decide +kernel
theorem dX6_mixProject_95 : decode cX6_mixProject 95 = .ok (.goto (-19), 3) := by decide +kernel
theorem dX6_mixProject_98 : decode cX6_mixProject 98 = .ok (.aload_n 0, 1) := by decide +kernel
theorem dX6_mixProject_99 : decode cX6_mixProject 99 = .ok (.aload_n 0, 1) := by decide +kernel
theorem dX6_mixProject_100 : decode cX6_mixProject 100 = .ok (.iload_n 1, 1) := by decide +kernel
theorem dX6_mixProject_101 : decode cX6_mixProject 101 = .ok (.invokevirtual 208, 3) := by decide +kernel
theorem dX6_mixProject_104 : decode cX6_mixProject 104 = .ok (.i2l, 1) := by decide +kernel
theorem dX6_mixProject_105 : decode cX6_mixProject 105 = .ok (.invokevirtual 230, 3) := by decide +kernel
theorem dX6_mixProject_108 : decode cX6_mixProject 108 = .ok (.iconst 0, 1) := by decide +kernel
theorem dX6_mixProject_109 : decode cX6_mixProject 109 = .ok (.istore_n 2, 1) := by decide +kernel
theorem dX6_mixProject_110 : decode cX6_mixProject 110 = .ok (.iload_n 2, 1) := by decide +kernel
theorem dX6_mixProject_111 : decode cX6_mixProject 111 = .ok (.iconst 5, 1) := by decide +kernel
theorem dX6_mixProject_112 : decode cX6_mixProject 112 = .ok (.if_icmp .ge 22, 3) := by decide +kernel
theorem dX6_mixProject_115 : decode cX6_mixProject 115 = .ok (.aload_n 0, 1) := by decide +kernel
theorem dX6_mixProject_116 : decode cX6_mixProject 116 = .ok (.aload_n 0, 1) := by decide +kernel
theorem dX6_mixProject_117 : decode cX6_mixProject 117 = .ok (.iload_n 1, 1) := by decide +kernel
theorem dX6_mixProject_118 : decode cX6_mixProject 118 = .ok (.bipush 60, 2) := by decide +kernel
theorem dX6_mixProject_120 : decode cX6_mixProject 120 = .ok (.iload_n 2, 1) := by decide +kernel
theorem dX6_mixProject_121 : decode cX6_mixProject 121 = .ok (.invokevirtual 204, 3) := by decide +kernel
theorem dX6_mixProject_124 : decode cX6_mixProject 124 = .ok (.i2l, 1) := by decide +kernel
theorem dX6_mixProject_125 : decode cX6_mixProject 125 = .ok (.invokevirtual 230, 3) := by decide +kernel
theorem dX6_mixProject_128 : decode cX6_mixProject 128 = .ok (.iinc 2 1, 3) := by decide +kernel
theorem dX6_mixProject_131 : decode cX6_mixProject 131 = .ok (.goto (-21), 3) := by decide +kernel
theorem dX6_mixProject_134 : decode cX6_mixProject 134 = .ok (.aload_n 0, 1) := by decide +kernel
theorem dX6_mixProject_135 : decode cX6_mixProject 135 = .ok (.aload_n 0, 1) := by decide +kernel
theorem dX6_mixProject_136 : decode cX6_mixProject 136 = .ok (.iload_n 1, 1) := by decide +kernel
theorem dX6_mixProject_137 : decode cX6_mixProject 137 = .ok (.bipush 60, 2) := by decide +kernel
theorem dX6_mixProject_139 : decode cX6_mixProject 139 = .ok (.invokevirtual 217, 3) := by decide +kernel
theorem dX6_mixProject_142 : decode cX6_mixProject 142 = .ok (.i2l, 1) := by decide +kernel
theorem dX6_mixProject_143 : decode cX6_mixProject 143 = .ok (.invokevirtual 230, 3) := by decide +kernel
theorem dX6_mixProject_146 : decode cX6_mixProject 146 = .ok (.iconst 0, 1) := by decide +kernel
theorem dX6_mixProject_147 : decode cX6_mixProject 147 = .ok (.istore_n 2, 1) := by decide +kernel
theorem dX6_mixProject_148 : decode cX6_mixProject 148 = .ok (.iload_n 2, 1) := by decide +kernel
theorem dX6_mixProject_149 : decode cX6_mixProject 149 = .ok (.aload_n 0, 1) := by decide +kernel
theorem dX6_mixProject_150 : decode cX6_mixProject 150 = .ok (.getfield 7, 3) := by decide +kernel
theorem dX6_mixProject_153 : decode cX6_mixProject 153 = .ok (.iconst 0, 1) := by decide +kernel
theorem dX6_mixProject_154 : decode cX6_mixProject 154 = .ok (.iaload, 1) := by decide +kernel
theorem dX6_mixProject_155 : decode cX6_mixProject 155 = .ok (.if_icmp .ge 20, 3) := by decide +kernel
theorem dX6_mixProject_158 : decode cX6_mixProject 158 = .ok (.aload_n 0, 1) := by decide +kernel
theorem dX6_mixProject_159 : decode cX6_mixProject 159 = .ok (.aload_n 0, 1) := by decide +kernel
theorem dX6_mixProject_160 : decode cX6_mixProject 160 = .ok (.iload_n 1, 1) := by decide +kernel
theorem dX6_mixProject_161 : decode cX6_mixProject 161 = .ok (.iload_n 2, 1) := by decide +kernel
theorem dX6_mixProject_162 : decode cX6_mixProject 162 = .ok (.invokevirtual 135, 3) := by decide +kernel
theorem dX6_mixProject_165 : decode cX6_mixProject 165 = .ok (.i2l, 1) := by decide +kernel
theorem dX6_mixProject_166 : decode cX6_mixProject 166 = .ok (.invokevirtual 230, 3) := by decide +kernel
theorem dX6_mixProject_169 : decode cX6_mixProject 169 = .ok (.iinc 2 1, 3) := by decide +kernel
theorem dX6_mixProject_172 : decode cX6_mixProject 172 = .ok (.goto (-24), 3) := by decide +kernel
theorem dX6_mixProject_175 : decode cX6_mixProject 175 = .ok (.return_, 1) := by decide +kernel
theorem dX6_digest_0 : decode cX6_digest 0 = .ok (.aload_n 0, 1) := by decide +kernel
theorem dX6_digest_1 : decode cX6_digest 1 = .ok (.iconst 0, 1) := by decide +kernel
theorem dX6_digest_2 : decode cX6_digest 2 = .ok (.putfield 28, 3) := by decide +kernel
theorem dX6_digest_5 : decode cX6_digest 5 = .ok (.aload_n 0, 1) := by decide +kernel
theorem dX6_digest_6 : decode cX6_digest 6 = .ok (.ldc2_w 234, 3) := by decide +kernel
theorem dX6_digest_9 : decode cX6_digest 9 = .ok (.putfield 226, 3) := by decide +kernel
theorem dX6_digest_12 : decode cX6_digest 12 = .ok (.iconst 0, 1) := by decide +kernel
theorem dX6_digest_13 : decode cX6_digest 13 = .ok (.istore_n 1, 1) := by decide +kernel
theorem dX6_digest_14 : decode cX6_digest 14 = .ok (.iload_n 1, 1) := by decide +kernel
theorem dX6_digest_15 : decode cX6_digest 15 = .ok (.bipush 10, 2) := by decide +kernel
theorem dX6_digest_17 : decode cX6_digest 17 = .ok (.if_icmp .ge 19, 3) := by decide +kernel
theorem dX6_digest_20 : decode cX6_digest 20 = .ok (.aload_n 0, 1) := by decide +kernel
theorem dX6_digest_21 : decode cX6_digest 21 = .ok (.aload_n 0, 1) := by decide +kernel
theorem dX6_digest_22 : decode cX6_digest 22 = .ok (.iload_n 1, 1) := by decide +kernel
theorem dX6_digest_23 : decode cX6_digest 23 = .ok (.invokevirtual 195, 3) := by decide +kernel
theorem dX6_digest_26 : decode cX6_digest 26 = .ok (.i2l, 1) := by decide +kernel
theorem dX6_digest_27 : decode cX6_digest 27 = .ok (.invokevirtual 230, 3) := by decide +kernel
theorem dX6_digest_30 : decode cX6_digest 30 = .ok (.iinc 1 1, 3) := by decide +kernel
theorem dX6_digest_33 : decode cX6_digest 33 = .ok (.goto (-19), 3) := by decide +kernel
theorem dX6_digest_36 : decode cX6_digest 36 = .ok (.iconst 0, 1) := by decide +kernel
theorem dX6_digest_37 : decode cX6_digest 37 = .ok (.istore_n 1, 1) := by decide +kernel
theorem dX6_digest_38 : decode cX6_digest 38 = .ok (.iload_n 1, 1) := by decide +kernel
theorem dX6_digest_39 : decode cX6_digest 39 = .ok (.iconst 3, 1) := by decide +kernel
theorem dX6_digest_40 : decode cX6_digest 40 = .ok (.if_icmp .ge 22, 3) := by decide +kernel
theorem dX6_digest_43 : decode cX6_digest 43 = .ok (.aload_n 0, 1) := by decide +kernel
theorem dX6_digest_44 : decode cX6_digest 44 = .ok (.aload_n 0, 1) := by decide +kernel
theorem dX6_digest_45 : decode cX6_digest 45 = .ok (.getfield 7, 3) := by decide +kernel
theorem dX6_digest_48 : decode cX6_digest 48 = .ok (.iconst 3, 1) := by decide +kernel
theorem dX6_digest_49 : decode cX6_digest 49 = .ok (.iload_n 1, 1) := by decide +kernel
theorem dX6_digest_50 : decode cX6_digest 50 = .ok (.iadd, 1) := by decide +kernel
theorem dX6_digest_51 : decode cX6_digest 51 = .ok (.iaload, 1) := by decide +kernel
theorem dX6_digest_52 : decode cX6_digest 52 = .ok (.i2l, 1) := by decide +kernel
theorem dX6_digest_53 : decode cX6_digest 53 = .ok (.invokevirtual 230, 3) := by decide +kernel
theorem dX6_digest_56 : decode cX6_digest 56 = .ok (.iinc 1 1, 3) := by decide +kernel
theorem dX6_digest_59 : decode cX6_digest 59 = .ok (.goto (-21), 3) := by decide +kernel
theorem dX6_digest_62 : decode cX6_digest 62 = .ok (.iconst 0, 1) := by decide +kernel
theorem dX6_digest_63 : decode cX6_digest 63 = .ok (.istore_n 1, 1) := by decide +kernel
theorem dX6_digest_64 : decode cX6_digest 64 = .ok (.iload_n 1, 1) := by decide +kernel
theorem dX6_digest_65 : decode cX6_digest 65 = .ok (.aload_n 0, 1) := by decide +kernel
theorem dX6_digest_66 : decode cX6_digest 66 = .ok (.getfield 7, 3) := by decide +kernel
theorem dX6_digest_69 : decode cX6_digest 69 = .ok (.iconst 0, 1) := by decide +kernel
theorem dX6_digest_70 : decode cX6_digest 70 = .ok (.iaload, 1) := by decide +kernel
theorem dX6_digest_71 : decode cX6_digest 71 = .ok (.if_icmp .ge 14, 3) := by decide +kernel
theorem dX6_digest_74 : decode cX6_digest 74 = .ok (.aload_n 0, 1) := by decide +kernel
theorem dX6_digest_75 : decode cX6_digest 75 = .ok (.iload_n 1, 1) := by decide +kernel
theorem dX6_digest_76 : decode cX6_digest 76 = .ok (.invokevirtual 236, 3) := by decide +kernel
theorem dX6_digest_79 : decode cX6_digest 79 = .ok (.iinc 1 1, 3) := by decide +kernel
theorem dX6_digest_82 : decode cX6_digest 82 = .ok (.goto (-18), 3) := by decide +kernel
theorem dX6_digest_85 : decode cX6_digest 85 = .ok (.iconst 0, 1) := by decide +kernel
theorem dX6_digest_86 : decode cX6_digest 86 = .ok (.istore_n 1, 1) := by decide +kernel
theorem dX6_digest_87 : decode cX6_digest 87 = .ok (.iload_n 1, 1) := by decide +kernel
theorem dX6_digest_88 : decode cX6_digest 88 = .ok (.iconst 3, 1) := by decide +kernel
theorem dX6_digest_89 : decode cX6_digest 89 = .ok (.aload_n 0, 1) := by decide +kernel
theorem dX6_digest_90 : decode cX6_digest 90 = .ok (.getfield 7, 3) := by decide +kernel
theorem dX6_digest_93 : decode cX6_digest 93 = .ok (.iconst 1, 1) := by decide +kernel
theorem dX6_digest_94 : decode cX6_digest 94 = .ok (.iaload, 1) := by decide +kernel
theorem dX6_digest_95 : decode cX6_digest 95 = .ok (.imul, 1) := by decide +kernel
theorem dX6_digest_96 : decode cX6_digest 96 = .ok (.if_icmp .ge 24, 3) := by decide +kernel
theorem dX6_digest_99 : decode cX6_digest 99 = .ok (.aload_n 0, 1) := by decide +kernel
theorem dX6_digest_100 : decode cX6_digest 100 = .ok (.aload_n 0, 1) := by decide +kernel
theorem dX6_digest_101 : decode cX6_digest 101 = .ok (.getfield 7, 3) := by decide +kernel
theorem dX6_digest_104 : decode cX6_digest 104 = .ok (.sipush 354, 3) := by decide +kernel
theorem dX6_digest_107 : decode cX6_digest 107 = .ok (.iload_n 1, 1) := by decide +kernel
theorem dX6_digest_108 : decode cX6_digest 108 = .ok (.iadd, 1) := by decide +kernel
theorem dX6_digest_109 : decode cX6_digest 109 = .ok (.iaload, 1) := by decide +kernel
theorem dX6_digest_110 : decode cX6_digest 110 = .ok (.i2l, 1) := by decide +kernel
theorem dX6_digest_111 : decode cX6_digest 111 = .ok (.invokevirtual 230, 3) := by decide +kernel
theorem dX6_digest_114 : decode cX6_digest 114 = .ok (.iinc 1 1, 3) := by decide +kernel
theorem dX6_digest_117 : decode cX6_digest 117 = .ok (.goto (-30), 3) := by decide +kernel
theorem dX6_digest_120 : decode cX6_digest 120 = .ok (.aload_n 0, 1) := by decide +kernel
theorem dX6_digest_121 : decode cX6_digest 121 = .ok (.aload_n 0, 1) := by decide +kernel
theorem dX6_digest_122 : decode cX6_digest 122 = .ok (.invokevirtual 211, 3) := by decide +kernel
theorem dX6_digest_125 : decode cX6_digest 125 = .ok (.i2l, 1) := by decide +kernel
theorem dX6_digest_126 : decode cX6_digest 126 = .ok (.invokevirtual 230, 3) := by decide +kernel
theorem dX6_digest_129 : decode cX6_digest 129 = .ok (.aload_n 0, 1) := by decide +kernel
theorem dX6_digest_130 : decode cX6_digest 130 = .ok (.aload_n 0, 1) := by decide +kernel
theorem dX6_digest_131 : decode cX6_digest 131 = .ok (.invokevirtual 220, 3) := by decide +kernel
theorem dX6_digest_134 : decode cX6_digest 134 = .ok (.invokestatic 239, 3) := by decide +kernel
theorem dX6_digest_137 : decode cX6_digest 137 = .ok (.invokevirtual 230, 3) := by decide +kernel
theorem dX6_digest_140 : decode cX6_digest 140 = .ok (.aload_n 0, 1) := by decide +kernel
theorem dX6_digest_141 : decode cX6_digest 141 = .ok (.aload_n 0, 1) := by decide +kernel
theorem dX6_digest_142 : decode cX6_digest 142 = .ok (.getfield 141, 3) := by decide +kernel
theorem dX6_digest_145 : decode cX6_digest 145 = .ok (.i2l, 1) := by decide +kernel
theorem dX6_digest_146 : decode cX6_digest 146 = .ok (.invokevirtual 230, 3) := by decide +kernel
theorem dX6_digest_149 : decode cX6_digest 149 = .ok (.iconst 0, 1) := by decide +kernel
theorem dX6_digest_150 : decode cX6_digest 150 = .ok (.istore_n 1, 1) := by decide +kernel
theorem dX6_digest_151 : decode cX6_digest 151 = .ok (.iload_n 1, 1) := by decide +kernel
theorem dX6_digest_152 : decode cX6_digest 152 = .ok (.aload_n 0, 1) := by decide +kernel
theorem dX6_digest_153 : decode cX6_digest 153 = .ok (.getfield 141, 3) := by decide +kernel
theorem dX6_digest_156 : decode cX6_digest 156 = .ok (.if_icmp .ge 20, 3) := by decide +kernel
theorem dX6_digest_159 : decode cX6_digest 159 = .ok (.aload_n 0, 1) := by decide +kernel
theorem dX6_digest_160 : decode cX6_digest 160 = .ok (.aload_n 0, 1) := by decide +kernel
theorem dX6_digest_161 : decode cX6_digest 161 = .ok (.getfield 19, 3) := by decide +kernel
theorem dX6_digest_164 : decode cX6_digest 164 = .ok (.iload_n 1, 1) := by decide +kernel
theorem dX6_digest_165 : decode cX6_digest 165 = .ok (.iaload, 1) := by decide +kernel
theorem dX6_digest_166 : decode cX6_digest 166 = .ok (.i2l, 1) := by decide +kernel
theorem dX6_digest_167 : decode cX6_digest 167 = .ok (.invokevirtual 230, 3) := by decide +kernel
theorem dX6_digest_170 : decode cX6_digest 170 = .ok (.iinc 1 1, 3) := by decide +kernel
theorem dX6_digest_173 : decode cX6_digest 173 = .ok (.goto (-22), 3) := by decide +kernel
theorem dX6_digest_176 : decode cX6_digest 176 = .ok (.aload_n 0, 1) := by decide +kernel
theorem dX6_digest_177 : decode cX6_digest 177 = .ok (.getfield 226, 3) := by decide +kernel
theorem dX6_digest_180 : decode cX6_digest 180 = .ok (.lreturn, 1) := by decide +kernel
theorem dJxe99ae_isNaN_b9ae7_0 : decode cJxe99ae_isNaN_b9ae7 0 = .ok (.dload_n 0, 1) := by decide +kernel
theorem dJxe99ae_isNaN_b9ae7_1 : decode cJxe99ae_isNaN_b9ae7 1 = .ok (.dload_n 0, 1) := by decide +kernel
theorem dJxe99ae_isNaN_b9ae7_2 : decode cJxe99ae_isNaN_b9ae7 2 = .ok (.dcmp .l, 1) := by decide +kernel
theorem dJxe99ae_isNaN_b9ae7_3 : decode cJxe99ae_isNaN_b9ae7 3 = .ok (.ifCond .eq 7, 3) := by decide +kernel
theorem dJxe99ae_isNaN_b9ae7_6 : decode cJxe99ae_isNaN_b9ae7 6 = .ok (.iconst 1, 1) := by decide +kernel
theorem dJxe99ae_isNaN_b9ae7_7 : decode cJxe99ae_isNaN_b9ae7 7 = .ok (.goto 4, 3) := by decide +kernel
theorem dJxe99ae_isNaN_b9ae7_10 : decode cJxe99ae_isNaN_b9ae7 10 = .ok (.iconst 0, 1) := by decide +kernel
theorem dJxe99ae_isNaN_b9ae7_11 : decode cJxe99ae_isNaN_b9ae7 11 = .ok (.ireturn, 1) := by decide +kernel
theorem dJxe99ae_doubleToLongBits_ccdee_0 : decode cJxe99ae_doubleToLongBits_ccdee 0 = .ok (.dload_n 0, 1) := by decide +kernel
theorem dJxe99ae_doubleToLongBits_ccdee_1 : decode cJxe99ae_doubleToLongBits_ccdee 1 = .ok (.invokestatic 122, 3) := by decide +kernel
theorem dJxe99ae_doubleToLongBits_ccdee_4 : decode cJxe99ae_doubleToLongBits_ccdee 4 = .ok (.ifCond .ne 8, 3) := by decide +kernel
theorem dJxe99ae_doubleToLongBits_ccdee_7 : decode cJxe99ae_doubleToLongBits_ccdee 7 = .ok (.dload_n 0, 1) := by decide +kernel
theorem dJxe99ae_doubleToLongBits_ccdee_8 : decode cJxe99ae_doubleToLongBits_ccdee 8 = .ok (.invokestatic 134, 3) := by decide +kernel
theorem dJxe99ae_doubleToLongBits_ccdee_11 : decode cJxe99ae_doubleToLongBits_ccdee 11 = .ok (.lreturn, 1) := by decide +kernel
theorem dJxe99ae_doubleToLongBits_ccdee_12 : decode cJxe99ae_doubleToLongBits_ccdee 12 = .ok (.ldc2_w 137, 3) := by decide +kernel
theorem dJxe99ae_doubleToLongBits_ccdee_15 : decode cJxe99ae_doubleToLongBits_ccdee 15 = .ok (.lreturn, 1) := by decide +kernel
theorem dJ9_max_7cf53_0 : decode cJ9_max_7cf53 0 = .ok (.iload_n 0, 1) := by decide +kernel
theorem dJ9_max_7cf53_1 : decode cJ9_max_7cf53 1 = .ok (.iload_n 1, 1) := by decide +kernel
theorem dJ9_max_7cf53_2 : decode cJ9_max_7cf53 2 = .ok (.if_icmp .lt 7, 3) := by decide +kernel
theorem dJ9_max_7cf53_5 : decode cJ9_max_7cf53 5 = .ok (.iload_n 0, 1) := by decide +kernel
theorem dJ9_max_7cf53_6 : decode cJ9_max_7cf53 6 = .ok (.goto 4, 3) := by decide +kernel
theorem dJ9_max_7cf53_9 : decode cJ9_max_7cf53 9 = .ok (.iload_n 1, 1) := by decide +kernel
theorem dJ9_max_7cf53_10 : decode cJ9_max_7cf53 10 = .ok (.ireturn, 1) := by decide +kernel
theorem dJ9_min_7cf53_0 : decode cJ9_min_7cf53 0 = .ok (.iload_n 0, 1) := by decide +kernel
theorem dJ9_min_7cf53_1 : decode cJ9_min_7cf53 1 = .ok (.iload_n 1, 1) := by decide +kernel
theorem dJ9_min_7cf53_2 : decode cJ9_min_7cf53 2 = .ok (.if_icmp .gt 7, 3) := by decide +kernel
theorem dJ9_min_7cf53_5 : decode cJ9_min_7cf53 5 = .ok (.iload_n 0, 1) := by decide +kernel
theorem dJ9_min_7cf53_6 : decode cJ9_min_7cf53 6 = .ok (.goto 4, 3) := by decide +kernel
theorem dJ9_min_7cf53_9 : decode cJ9_min_7cf53 9 = .ok (.iload_n 1, 1) := by decide +kernel
theorem dJ9_min_7cf53_10 : decode cJ9_min_7cf53 10 = .ok (.ireturn, 1) := by decide +kernel
theorem dL_open_0 : decode cL_open 0 = .ok (.aload_n 3, 1) := by decide +kernel
theorem dL_open_1 : decode cL_open 1 = .ok (.iconst 0, 1) := by decide +kernel
theorem dL_open_2 : decode cL_open 2 = .ok (.aload_n 0, 1) := by decide +kernel
theorem dL_open_3 : decode cL_open 3 = .ok (.iload_n 1, 1) := by decide +kernel
theorem dL_open_4 : decode cL_open 4 = .ok (.iload_n 2, 1) := by decide +kernel
theorem dL_open_5 : decode cL_open 5 = .ok (.invokevirtual 7, 3) := by decide +kernel
theorem dL_open_8 : decode cL_open 8 = .ok (.i2l, 1) := by decide +kernel
theorem dL_open_9 : decode cL_open 9 = .ok (.lastore, 1) := by decide +kernel
theorem dL_open_10 : decode cL_open 10 = .ok (.goto 11, 3) := by decide +kernel
theorem dL_open_13 : decode cL_open 13 = .ok (.astore 4, 2) := by decide +kernel
theorem dL_open_15 : decode cL_open 15 = .ok (.iconst 1, 1) := by decide +kernel
theorem dL_open_16 : decode cL_open 16 = .ok (.ireturn, 1) := by decide +kernel
theorem dL_open_17 : decode cL_open 17 = .ok (.astore 4, 2) := by decide +kernel
theorem dL_open_19 : decode cL_open 19 = .ok (.iconst 2, 1) := by decide +kernel
theorem dL_open_20 : decode cL_open 20 = .ok (.ireturn, 1) := by decide +kernel
theorem dL_open_21 : decode cL_open 21 = .ok (.iconst 0, 1) := by decide +kernel
theorem dL_open_22 : decode cL_open 22 = .ok (.ireturn, 1) := by decide +kernel
theorem dL_plan_0 : decode cL_plan 0 = .ok (.aload_n 3, 1) := by decide +kernel
theorem dL_plan_1 : decode cL_plan 1 = .ok (.iconst 0, 1) := by decide +kernel
theorem dL_plan_2 : decode cL_plan 2 = .ok (.aload_n 0, 1) := by decide +kernel
theorem dL_plan_3 : decode cL_plan 3 = .ok (.iload_n 1, 1) := by decide +kernel
theorem dL_plan_4 : decode cL_plan 4 = .ok (.iload_n 2, 1) := by decide +kernel
theorem dL_plan_5 : decode cL_plan 5 = .ok (.invokevirtual 17, 3) := by decide +kernel
theorem dL_plan_8 : decode cL_plan 8 = .ok (.i2l, 1) := by decide +kernel
theorem dL_plan_9 : decode cL_plan 9 = .ok (.lastore, 1) := by decide +kernel
theorem dL_plan_10 : decode cL_plan 10 = .ok (.goto 15, 3) := by decide +kernel
theorem dL_plan_13 : decode cL_plan 13 = .ok (.astore 4, 2) := by decide +kernel
theorem dL_plan_15 : decode cL_plan 15 = .ok (.iconst 1, 1) := by decide +kernel
theorem dL_plan_16 : decode cL_plan 16 = .ok (.ireturn, 1) := by decide +kernel
theorem dL_plan_17 : decode cL_plan 17 = .ok (.astore 4, 2) := by decide +kernel
theorem dL_plan_19 : decode cL_plan 19 = .ok (.iconst 2, 1) := by decide +kernel
theorem dL_plan_20 : decode cL_plan 20 = .ok (.ireturn, 1) := by decide +kernel
theorem dL_plan_21 : decode cL_plan 21 = .ok (.astore 4, 2) := by decide +kernel
theorem dL_plan_23 : decode cL_plan 23 = .ok (.iconst 3, 1) := by decide +kernel
theorem dL_plan_24 : decode cL_plan 24 = .ok (.ireturn, 1) := by decide +kernel
theorem dL_plan_25 : decode cL_plan 25 = .ok (.iconst 0, 1) := by decide +kernel
theorem dL_plan_26 : decode cL_plan 26 = .ok (.ireturn, 1) := by decide +kernel
theorem dL_rank_0 : decode cL_rank 0 = .ok (.aload_n 3, 1) := by decide +kernel
theorem dL_rank_1 : decode cL_rank 1 = .ok (.iconst 0, 1) := by decide +kernel
theorem dL_rank_2 : decode cL_rank 2 = .ok (.aload_n 0, 1) := by decide +kernel
theorem dL_rank_3 : decode cL_rank 3 = .ok (.iload_n 1, 1) := by decide +kernel
theorem dL_rank_4 : decode cL_rank 4 = .ok (.iload_n 2, 1) := by decide +kernel
theorem dL_rank_5 : decode cL_rank 5 = .ok (.invokevirtual 22, 3) := by decide +kernel
theorem dL_rank_8 : decode cL_rank 8 = .ok (.i2l, 1) := by decide +kernel
theorem dL_rank_9 : decode cL_rank 9 = .ok (.lastore, 1) := by decide +kernel
theorem dL_rank_10 : decode cL_rank 10 = .ok (.goto 11, 3) := by decide +kernel
theorem dL_rank_13 : decode cL_rank 13 = .ok (.astore 4, 2) := by decide +kernel
theorem dL_rank_15 : decode cL_rank 15 = .ok (.iconst 1, 1) := by decide +kernel
theorem dL_rank_16 : decode cL_rank 16 = .ok (.ireturn, 1) := by decide +kernel
theorem dL_rank_17 : decode cL_rank 17 = .ok (.astore 4, 2) := by decide +kernel
theorem dL_rank_19 : decode cL_rank 19 = .ok (.iconst 2, 1) := by decide +kernel
theorem dL_rank_20 : decode cL_rank 20 = .ok (.ireturn, 1) := by decide +kernel
theorem dL_rank_21 : decode cL_rank 21 = .ok (.iconst 0, 1) := by decide +kernel
theorem dL_rank_22 : decode cL_rank 22 = .ok (.ireturn, 1) := by decide +kernel
theorem dL_set_0 : decode cL_set 0 = .ok (.aload_n 3, 1) := by decide +kernel
theorem dL_set_1 : decode cL_set 1 = .ok (.iconst 0, 1) := by decide +kernel
theorem dL_set_2 : decode cL_set 2 = .ok (.aload_n 0, 1) := by decide +kernel
theorem dL_set_3 : decode cL_set 3 = .ok (.iload_n 1, 1) := by decide +kernel
theorem dL_set_4 : decode cL_set 4 = .ok (.iload_n 2, 1) := by decide +kernel
theorem dL_set_5 : decode cL_set 5 = .ok (.invokevirtual 25, 3) := by decide +kernel
theorem dL_set_8 : decode cL_set 8 = .ok (.i2l, 1) := by decide +kernel
theorem dL_set_9 : decode cL_set 9 = .ok (.lastore, 1) := by decide +kernel
theorem dL_set_10 : decode cL_set 10 = .ok (.goto 11, 3) := by decide +kernel
theorem dL_set_13 : decode cL_set 13 = .ok (.astore 4, 2) := by decide +kernel
theorem dL_set_15 : decode cL_set 15 = .ok (.iconst 1, 1) := by decide +kernel
theorem dL_set_16 : decode cL_set 16 = .ok (.ireturn, 1) := by decide +kernel
theorem dL_set_17 : decode cL_set 17 = .ok (.astore 4, 2) := by decide +kernel
theorem dL_set_19 : decode cL_set 19 = .ok (.iconst 2, 1) := by decide +kernel
theorem dL_set_20 : decode cL_set 20 = .ok (.ireturn, 1) := by decide +kernel
theorem dL_set_21 : decode cL_set 21 = .ok (.iconst 0, 1) := by decide +kernel
theorem dL_set_22 : decode cL_set 22 = .ok (.ireturn, 1) := by decide +kernel
theorem dL_done_0 : decode cL_done 0 = .ok (.aload_n 3, 1) := by decide +kernel
theorem dL_done_1 : decode cL_done 1 = .ok (.iconst 0, 1) := by decide +kernel
theorem dL_done_2 : decode cL_done 2 = .ok (.aload_n 0, 1) := by decide +kernel
theorem dL_done_3 : decode cL_done 3 = .ok (.iload_n 1, 1) := by decide +kernel
theorem dL_done_4 : decode cL_done 4 = .ok (.iload_n 2, 1) := by decide +kernel
theorem dL_done_5 : decode cL_done 5 = .ok (.invokevirtual 28, 3) := by decide +kernel
theorem dL_done_8 : decode cL_done 8 = .ok (.i2l, 1) := by decide +kernel
theorem dL_done_9 : decode cL_done 9 = .ok (.lastore, 1) := by decide +kernel
theorem dL_done_10 : decode cL_done 10 = .ok (.goto 15, 3) := by decide +kernel
theorem dL_done_13 : decode cL_done 13 = .ok (.astore 4, 2) := by decide +kernel
theorem dL_done_15 : decode cL_done 15 = .ok (.iconst 1, 1) := by decide +kernel
theorem dL_done_16 : decode cL_done 16 = .ok (.ireturn, 1) := by decide +kernel
theorem dL_done_17 : decode cL_done 17 = .ok (.astore 4, 2) := by decide +kernel
theorem dL_done_19 : decode cL_done 19 = .ok (.iconst 2, 1) := by decide +kernel
theorem dL_done_20 : decode cL_done 20 = .ok (.ireturn, 1) := by decide +kernel
theorem dL_done_21 : decode cL_done 21 = .ok (.astore 4, 2) := by decide +kernel
theorem dL_done_23 : decode cL_done 23 = .ok (.iconst 3, 1) := by decide +kernel
theorem dL_done_24 : decode cL_done 24 = .ok (.ireturn, 1) := by decide +kernel
theorem dL_done_25 : decode cL_done 25 = .ok (.iconst 0, 1) := by decide +kernel
theorem dL_done_26 : decode cL_done 26 = .ok (.ireturn, 1) := by decide +kernel
theorem dL_lend_0 : decode cL_lend 0 = .ok (.aload 4, 2) := by decide +kernel
theorem dL_lend_2 : decode cL_lend 2 = .ok (.iconst 0, 1) := by decide +kernel
theorem dL_lend_3 : decode cL_lend 3 = .ok (.aload_n 0, 1) := by decide +kernel
theorem dL_lend_4 : decode cL_lend 4 = .ok (.iload_n 1, 1) := by decide +kernel
theorem dL_lend_5 : decode cL_lend 5 = .ok (.iload_n 2, 1) := by decide +kernel
theorem dL_lend_6 : decode cL_lend 6 = .ok (.iload_n 3, 1) := by decide +kernel
theorem dL_lend_7 : decode cL_lend 7 = .ok (.invokevirtual 31, 3) := by decide +kernel
theorem dL_lend_10 : decode cL_lend 10 = .ok (.i2l, 1) := by decide +kernel
theorem dL_lend_11 : decode cL_lend 11 = .ok (.lastore, 1) := by decide +kernel
theorem dL_lend_12 : decode cL_lend 12 = .ok (.goto 15, 3) := by decide +kernel
theorem dL_lend_15 : decode cL_lend 15 = .ok (.astore 5, 2) := by decide +kernel
theorem dL_lend_17 : decode cL_lend 17 = .ok (.iconst 1, 1) := by decide +kernel
theorem dL_lend_18 : decode cL_lend 18 = .ok (.ireturn, 1) := by decide +kernel
theorem dL_lend_19 : decode cL_lend 19 = .ok (.astore 5, 2) := by decide +kernel
theorem dL_lend_21 : decode cL_lend 21 = .ok (.iconst 2, 1) := by decide +kernel
theorem dL_lend_22 : decode cL_lend 22 = .ok (.ireturn, 1) := by decide +kernel
theorem dL_lend_23 : decode cL_lend 23 = .ok (.astore 5, 2) := by decide +kernel
theorem dL_lend_25 : decode cL_lend 25 = .ok (.iconst 3, 1) := by decide +kernel
theorem dL_lend_26 : decode cL_lend 26 = .ok (.ireturn, 1) := by decide +kernel
theorem dL_lend_27 : decode cL_lend 27 = .ok (.iconst 0, 1) := by decide +kernel
theorem dL_lend_28 : decode cL_lend 28 = .ok (.ireturn, 1) := by decide +kernel
theorem dL_payBack_0 : decode cL_payBack 0 = .ok (.aload 4, 2) := by decide +kernel
theorem dL_payBack_2 : decode cL_payBack 2 = .ok (.iconst 0, 1) := by decide +kernel
theorem dL_payBack_3 : decode cL_payBack 3 = .ok (.aload_n 0, 1) := by decide +kernel
theorem dL_payBack_4 : decode cL_payBack 4 = .ok (.iload_n 1, 1) := by decide +kernel
theorem dL_payBack_5 : decode cL_payBack 5 = .ok (.iload_n 2, 1) := by decide +kernel
theorem dL_payBack_6 : decode cL_payBack 6 = .ok (.iload_n 3, 1) := by decide +kernel
theorem dL_payBack_7 : decode cL_payBack 7 = .ok (.invokevirtual 35, 3) := by decide +kernel
theorem dL_payBack_10 : decode cL_payBack 10 = .ok (.i2l, 1) := by decide +kernel
theorem dL_payBack_11 : decode cL_payBack 11 = .ok (.lastore, 1) := by decide +kernel
theorem dL_payBack_12 : decode cL_payBack 12 = .ok (.goto 15, 3) := by decide +kernel
theorem dL_payBack_15 : decode cL_payBack 15 = .ok (.astore 5, 2) := by decide +kernel
theorem dL_payBack_17 : decode cL_payBack 17 = .ok (.iconst 1, 1) := by decide +kernel
theorem dL_payBack_18 : decode cL_payBack 18 = .ok (.ireturn, 1) := by decide +kernel
theorem dL_payBack_19 : decode cL_payBack 19 = .ok (.astore 5, 2) := by decide +kernel
theorem dL_payBack_21 : decode cL_payBack 21 = .ok (.iconst 2, 1) := by decide +kernel
theorem dL_payBack_22 : decode cL_payBack 22 = .ok (.ireturn, 1) := by decide +kernel
theorem dL_payBack_23 : decode cL_payBack 23 = .ok (.astore 5, 2) := by decide +kernel
theorem dL_payBack_25 : decode cL_payBack 25 = .ok (.iconst 3, 1) := by decide +kernel
theorem dL_payBack_26 : decode cL_payBack 26 = .ok (.ireturn, 1) := by decide +kernel
theorem dL_payBack_27 : decode cL_payBack 27 = .ok (.iconst 0, 1) := by decide +kernel
theorem dL_payBack_28 : decode cL_payBack 28 = .ok (.ireturn, 1) := by decide +kernel
theorem dL_close_0 : decode cL_close 0 = .ok (.aload_n 2, 1) := by decide +kernel
theorem dL_close_1 : decode cL_close 1 = .ok (.iconst 0, 1) := by decide +kernel
theorem dL_close_2 : decode cL_close 2 = .ok (.aload_n 0, 1) := by decide +kernel
theorem dL_close_3 : decode cL_close 3 = .ok (.iload_n 1, 1) := by decide +kernel
theorem dL_close_4 : decode cL_close 4 = .ok (.invokevirtual 38, 3) := by decide +kernel
theorem dL_close_7 : decode cL_close 7 = .ok (.i2l, 1) := by decide +kernel
theorem dL_close_8 : decode cL_close 8 = .ok (.lastore, 1) := by decide +kernel
theorem dL_close_9 : decode cL_close 9 = .ok (.goto 9, 3) := by decide +kernel
theorem dL_close_12 : decode cL_close 12 = .ok (.astore_n 3, 1) := by decide +kernel
theorem dL_close_13 : decode cL_close 13 = .ok (.iconst 1, 1) := by decide +kernel
theorem dL_close_14 : decode cL_close 14 = .ok (.ireturn, 1) := by decide +kernel
theorem dL_close_15 : decode cL_close 15 = .ok (.astore_n 3, 1) := by decide +kernel
theorem dL_close_16 : decode cL_close 16 = .ok (.iconst 2, 1) := by decide +kernel
theorem dL_close_17 : decode cL_close 17 = .ok (.ireturn, 1) := by decide +kernel
theorem dL_close_18 : decode cL_close 18 = .ok (.iconst 0, 1) := by decide +kernel
theorem dL_close_19 : decode cL_close 19 = .ok (.ireturn, 1) := by decide +kernel
theorem dL_append_0 : decode cL_append 0 = .ok (.aload_n 2, 1) := by decide +kernel
theorem dL_append_1 : decode cL_append 1 = .ok (.iconst 0, 1) := by decide +kernel
theorem dL_append_2 : decode cL_append 2 = .ok (.aload_n 0, 1) := by decide +kernel
theorem dL_append_3 : decode cL_append 3 = .ok (.iload_n 1, 1) := by decide +kernel
theorem dL_append_4 : decode cL_append 4 = .ok (.invokevirtual 42, 3) := by decide +kernel
theorem dL_append_7 : decode cL_append 7 = .ok (.i2l, 1) := by decide +kernel
theorem dL_append_8 : decode cL_append 8 = .ok (.lastore, 1) := by decide +kernel
theorem dL_append_9 : decode cL_append 9 = .ok (.goto 9, 3) := by decide +kernel
theorem dL_append_12 : decode cL_append 12 = .ok (.astore_n 3, 1) := by decide +kernel
theorem dL_append_13 : decode cL_append 13 = .ok (.iconst 1, 1) := by decide +kernel
theorem dL_append_14 : decode cL_append 14 = .ok (.ireturn, 1) := by decide +kernel
theorem dL_append_15 : decode cL_append 15 = .ok (.astore_n 3, 1) := by decide +kernel
theorem dL_append_16 : decode cL_append 16 = .ok (.iconst 2, 1) := by decide +kernel
theorem dL_append_17 : decode cL_append 17 = .ok (.ireturn, 1) := by decide +kernel
theorem dL_append_18 : decode cL_append 18 = .ok (.iconst 0, 1) := by decide +kernel
theorem dL_append_19 : decode cL_append 19 = .ok (.ireturn, 1) := by decide +kernel
theorem dL_openAll_0 : decode cL_openAll 0 = .ok (.aload_n 1, 1) := by decide +kernel
theorem dL_openAll_1 : decode cL_openAll 1 = .ok (.iconst 0, 1) := by decide +kernel
theorem dL_openAll_2 : decode cL_openAll 2 = .ok (.aload_n 0, 1) := by decide +kernel
theorem dL_openAll_3 : decode cL_openAll 3 = .ok (.invokevirtual 45, 3) := by decide +kernel
theorem dL_openAll_6 : decode cL_openAll 6 = .ok (.i2l, 1) := by decide +kernel
theorem dL_openAll_7 : decode cL_openAll 7 = .ok (.lastore, 1) := by decide +kernel
theorem dL_openAll_8 : decode cL_openAll 8 = .ok (.goto 9, 3) := by decide +kernel
theorem dL_openAll_11 : decode cL_openAll 11 = .ok (.astore_n 2, 1) := by decide +kernel
theorem dL_openAll_12 : decode cL_openAll 12 = .ok (.iconst 1, 1) := by decide +kernel
theorem dL_openAll_13 : decode cL_openAll 13 = .ok (.ireturn, 1) := by decide +kernel
theorem dL_openAll_14 : decode cL_openAll 14 = .ok (.astore_n 2, 1) := by decide +kernel
theorem dL_openAll_15 : decode cL_openAll 15 = .ok (.iconst 2, 1) := by decide +kernel
theorem dL_openAll_16 : decode cL_openAll 16 = .ok (.ireturn, 1) := by decide +kernel
theorem dL_openAll_17 : decode cL_openAll 17 = .ok (.iconst 0, 1) := by decide +kernel
theorem dL_openAll_18 : decode cL_openAll 18 = .ok (.ireturn, 1) := by decide +kernel
theorem dL_undo_0 : decode cL_undo 0 = .ok (.aload_n 1, 1) := by decide +kernel
theorem dL_undo_1 : decode cL_undo 1 = .ok (.iconst 0, 1) := by decide +kernel
theorem dL_undo_2 : decode cL_undo 2 = .ok (.aload_n 0, 1) := by decide +kernel
theorem dL_undo_3 : decode cL_undo 3 = .ok (.invokevirtual 49, 3) := by decide +kernel
theorem dL_undo_6 : decode cL_undo 6 = .ok (.i2l, 1) := by decide +kernel
theorem dL_undo_7 : decode cL_undo 7 = .ok (.lastore, 1) := by decide +kernel
theorem dL_undo_8 : decode cL_undo 8 = .ok (.goto 6, 3) := by decide +kernel
theorem dL_undo_11 : decode cL_undo 11 = .ok (.astore_n 2, 1) := by decide +kernel
theorem dL_undo_12 : decode cL_undo 12 = .ok (.iconst 1, 1) := by decide +kernel
theorem dL_undo_13 : decode cL_undo 13 = .ok (.ireturn, 1) := by decide +kernel
theorem dL_undo_14 : decode cL_undo 14 = .ok (.iconst 0, 1) := by decide +kernel
theorem dL_undo_15 : decode cL_undo 15 = .ok (.ireturn, 1) := by decide +kernel
theorem dL_project_0 : decode cL_project 0 = .ok (.aload_n 3, 1) := by decide +kernel
theorem dL_project_1 : decode cL_project 1 = .ok (.iconst 0, 1) := by decide +kernel
theorem dL_project_2 : decode cL_project 2 = .ok (.aload_n 0, 1) := by decide +kernel
theorem dL_project_3 : decode cL_project 3 = .ok (.iload_n 1, 1) := by decide +kernel
theorem dL_project_4 : decode cL_project 4 = .ok (.iload_n 2, 1) := by decide +kernel
theorem dL_project_5 : decode cL_project 5 = .ok (.invokevirtual 52, 3) := by decide +kernel
theorem dL_project_8 : decode cL_project 8 = .ok (.i2l, 1) := by decide +kernel
theorem dL_project_9 : decode cL_project 9 = .ok (.lastore, 1) := by decide +kernel
theorem dL_project_10 : decode cL_project 10 = .ok (.goto 11, 3) := by decide +kernel
theorem dL_project_13 : decode cL_project 13 = .ok (.astore 4, 2) := by decide +kernel
theorem dL_project_15 : decode cL_project 15 = .ok (.iconst 1, 1) := by decide +kernel
theorem dL_project_16 : decode cL_project 16 = .ok (.ireturn, 1) := by decide +kernel
theorem dL_project_17 : decode cL_project 17 = .ok (.astore 4, 2) := by decide +kernel
theorem dL_project_19 : decode cL_project 19 = .ok (.iconst 2, 1) := by decide +kernel
theorem dL_project_20 : decode cL_project 20 = .ok (.ireturn, 1) := by decide +kernel
theorem dL_project_21 : decode cL_project 21 = .ok (.iconst 0, 1) := by decide +kernel
theorem dL_project_22 : decode cL_project 22 = .ok (.ireturn, 1) := by decide +kernel
theorem dL_task_0 : decode cL_task 0 = .ok (.aload 4, 2) := by decide +kernel
theorem dL_task_2 : decode cL_task 2 = .ok (.iconst 0, 1) := by decide +kernel
theorem dL_task_3 : decode cL_task 3 = .ok (.aload_n 0, 1) := by decide +kernel
theorem dL_task_4 : decode cL_task 4 = .ok (.iload_n 1, 1) := by decide +kernel
theorem dL_task_5 : decode cL_task 5 = .ok (.iload_n 2, 1) := by decide +kernel
theorem dL_task_6 : decode cL_task 6 = .ok (.iload_n 3, 1) := by decide +kernel
theorem dL_task_7 : decode cL_task 7 = .ok (.invokevirtual 55, 3) := by decide +kernel
theorem dL_task_10 : decode cL_task 10 = .ok (.i2l, 1) := by decide +kernel
theorem dL_task_11 : decode cL_task 11 = .ok (.lastore, 1) := by decide +kernel
theorem dL_task_12 : decode cL_task 12 = .ok (.goto 11, 3) := by decide +kernel
theorem dL_task_15 : decode cL_task 15 = .ok (.astore 5, 2) := by decide +kernel
theorem dL_task_17 : decode cL_task 17 = .ok (.iconst 1, 1) := by decide +kernel
theorem dL_task_18 : decode cL_task 18 = .ok (.ireturn, 1) := by decide +kernel
theorem dL_task_19 : decode cL_task 19 = .ok (.astore 5, 2) := by decide +kernel
theorem dL_task_21 : decode cL_task 21 = .ok (.iconst 2, 1) := by decide +kernel
theorem dL_task_22 : decode cL_task 22 = .ok (.ireturn, 1) := by decide +kernel
theorem dL_task_23 : decode cL_task 23 = .ok (.iconst 0, 1) := by decide +kernel
theorem dL_task_24 : decode cL_task 24 = .ok (.ireturn, 1) := by decide +kernel
theorem dL_loan_0 : decode cL_loan 0 = .ok (.aload_n 3, 1) := by decide +kernel
theorem dL_loan_1 : decode cL_loan 1 = .ok (.iconst 0, 1) := by decide +kernel
theorem dL_loan_2 : decode cL_loan 2 = .ok (.aload_n 0, 1) := by decide +kernel
theorem dL_loan_3 : decode cL_loan 3 = .ok (.iload_n 1, 1) := by decide +kernel
theorem dL_loan_4 : decode cL_loan 4 = .ok (.iload_n 2, 1) := by decide +kernel
theorem dL_loan_5 : decode cL_loan 5 = .ok (.invokevirtual 58, 3) := by decide +kernel
theorem dL_loan_8 : decode cL_loan 8 = .ok (.i2l, 1) := by decide +kernel
theorem dL_loan_9 : decode cL_loan 9 = .ok (.lastore, 1) := by decide +kernel
theorem dL_loan_10 : decode cL_loan 10 = .ok (.goto 11, 3) := by decide +kernel
theorem dL_loan_13 : decode cL_loan 13 = .ok (.astore 4, 2) := by decide +kernel
theorem dL_loan_15 : decode cL_loan 15 = .ok (.iconst 1, 1) := by decide +kernel
theorem dL_loan_16 : decode cL_loan 16 = .ok (.ireturn, 1) := by decide +kernel
theorem dL_loan_17 : decode cL_loan 17 = .ok (.astore 4, 2) := by decide +kernel
theorem dL_loan_19 : decode cL_loan 19 = .ok (.iconst 2, 1) := by decide +kernel
theorem dL_loan_20 : decode cL_loan 20 = .ok (.ireturn, 1) := by decide +kernel
theorem dL_loan_21 : decode cL_loan 21 = .ok (.iconst 0, 1) := by decide +kernel
theorem dL_loan_22 : decode cL_loan 22 = .ok (.ireturn, 1) := by decide +kernel
theorem dL_owed_0 : decode cL_owed 0 = .ok (.aload_n 3, 1) := by decide +kernel
theorem dL_owed_1 : decode cL_owed 1 = .ok (.iconst 0, 1) := by decide +kernel
theorem dL_owed_2 : decode cL_owed 2 = .ok (.aload_n 0, 1) := by decide +kernel
theorem dL_owed_3 : decode cL_owed 3 = .ok (.iload_n 1, 1) := by decide +kernel
theorem dL_owed_4 : decode cL_owed 4 = .ok (.iload_n 2, 1) := by decide +kernel
theorem dL_owed_5 : decode cL_owed 5 = .ok (.invokevirtual 61, 3) := by decide +kernel
theorem dL_owed_8 : decode cL_owed 8 = .ok (.i2l, 1) := by decide +kernel
theorem dL_owed_9 : decode cL_owed 9 = .ok (.lastore, 1) := by decide +kernel
theorem dL_owed_10 : decode cL_owed 10 = .ok (.goto 7, 3) := by decide +kernel
theorem dL_owed_13 : decode cL_owed 13 = .ok (.astore 4, 2) := by decide +kernel
theorem dL_owed_15 : decode cL_owed 15 = .ok (.iconst 1, 1) := by decide +kernel
theorem dL_owed_16 : decode cL_owed 16 = .ok (.ireturn, 1) := by decide +kernel
theorem dL_owed_17 : decode cL_owed 17 = .ok (.iconst 0, 1) := by decide +kernel
theorem dL_owed_18 : decode cL_owed 18 = .ok (.ireturn, 1) := by decide +kernel
theorem dL_lender_0 : decode cL_lender 0 = .ok (.aload_n 3, 1) := by decide +kernel
theorem dL_lender_1 : decode cL_lender 1 = .ok (.iconst 0, 1) := by decide +kernel
theorem dL_lender_2 : decode cL_lender 2 = .ok (.aload_n 0, 1) := by decide +kernel
theorem dL_lender_3 : decode cL_lender 3 = .ok (.iload_n 1, 1) := by decide +kernel
theorem dL_lender_4 : decode cL_lender 4 = .ok (.iload_n 2, 1) := by decide +kernel
theorem dL_lender_5 : decode cL_lender 5 = .ok (.invokevirtual 64, 3) := by decide +kernel
theorem dL_lender_8 : decode cL_lender 8 = .ok (.i2l, 1) := by decide +kernel
theorem dL_lender_9 : decode cL_lender 9 = .ok (.lastore, 1) := by decide +kernel
theorem dL_lender_10 : decode cL_lender 10 = .ok (.goto 11, 3) := by decide +kernel
theorem dL_lender_13 : decode cL_lender 13 = .ok (.astore 4, 2) := by decide +kernel
theorem dL_lender_15 : decode cL_lender 15 = .ok (.iconst 1, 1) := by decide +kernel
theorem dL_lender_16 : decode cL_lender 16 = .ok (.ireturn, 1) := by decide +kernel
theorem dL_lender_17 : decode cL_lender 17 = .ok (.astore 4, 2) := by decide +kernel
theorem dL_lender_19 : decode cL_lender 19 = .ok (.iconst 2, 1) := by decide +kernel
theorem dL_lender_20 : decode cL_lender 20 = .ok (.ireturn, 1) := by decide +kernel
theorem dL_lender_21 : decode cL_lender 21 = .ok (.iconst 0, 1) := by decide +kernel
theorem dL_lender_22 : decode cL_lender 22 = .ok (.ireturn, 1) := by decide +kernel
theorem dL_count_0 : decode cL_count 0 = .ok (.aload_n 2, 1) := by decide +kernel
theorem dL_count_1 : decode cL_count 1 = .ok (.iconst 0, 1) := by decide +kernel
theorem dL_count_2 : decode cL_count 2 = .ok (.aload_n 0, 1) := by decide +kernel
theorem dL_count_3 : decode cL_count 3 = .ok (.iload_n 1, 1) := by decide +kernel
theorem dL_count_4 : decode cL_count 4 = .ok (.invokevirtual 67, 3) := by decide +kernel
theorem dL_count_7 : decode cL_count 7 = .ok (.i2l, 1) := by decide +kernel
theorem dL_count_8 : decode cL_count 8 = .ok (.lastore, 1) := by decide +kernel
theorem dL_count_9 : decode cL_count 9 = .ok (.goto 6, 3) := by decide +kernel
theorem dL_count_12 : decode cL_count 12 = .ok (.astore_n 3, 1) := by decide +kernel
theorem dL_count_13 : decode cL_count 13 = .ok (.iconst 1, 1) := by decide +kernel
theorem dL_count_14 : decode cL_count 14 = .ok (.ireturn, 1) := by decide +kernel
theorem dL_count_15 : decode cL_count 15 = .ok (.iconst 0, 1) := by decide +kernel
theorem dL_count_16 : decode cL_count 16 = .ok (.ireturn, 1) := by decide +kernel
theorem dL_setting_0 : decode cL_setting 0 = .ok (.aload_n 2, 1) := by decide +kernel
theorem dL_setting_1 : decode cL_setting 1 = .ok (.iconst 0, 1) := by decide +kernel
theorem dL_setting_2 : decode cL_setting 2 = .ok (.aload_n 0, 1) := by decide +kernel
theorem dL_setting_3 : decode cL_setting 3 = .ok (.iload_n 1, 1) := by decide +kernel
theorem dL_setting_4 : decode cL_setting 4 = .ok (.invokevirtual 70, 3) := by decide +kernel
theorem dL_setting_7 : decode cL_setting 7 = .ok (.i2l, 1) := by decide +kernel
theorem dL_setting_8 : decode cL_setting 8 = .ok (.lastore, 1) := by decide +kernel
theorem dL_setting_9 : decode cL_setting 9 = .ok (.goto 6, 3) := by decide +kernel
theorem dL_setting_12 : decode cL_setting 12 = .ok (.astore_n 3, 1) := by decide +kernel
theorem dL_setting_13 : decode cL_setting 13 = .ok (.iconst 1, 1) := by decide +kernel
theorem dL_setting_14 : decode cL_setting 14 = .ok (.ireturn, 1) := by decide +kernel
theorem dL_setting_15 : decode cL_setting 15 = .ok (.iconst 0, 1) := by decide +kernel
theorem dL_setting_16 : decode cL_setting 16 = .ok (.ireturn, 1) := by decide +kernel
theorem dL_ifDone_0 : decode cL_ifDone 0 = .ok (.aload 4, 2) := by decide +kernel
theorem dL_ifDone_2 : decode cL_ifDone 2 = .ok (.iconst 0, 1) := by decide +kernel
theorem dL_ifDone_3 : decode cL_ifDone 3 = .ok (.aload_n 0, 1) := by decide +kernel
theorem dL_ifDone_4 : decode cL_ifDone 4 = .ok (.iload_n 1, 1) := by decide +kernel
theorem dL_ifDone_5 : decode cL_ifDone 5 = .ok (.iload_n 2, 1) := by decide +kernel
theorem dL_ifDone_6 : decode cL_ifDone 6 = .ok (.iload_n 3, 1) := by decide +kernel
theorem dL_ifDone_7 : decode cL_ifDone 7 = .ok (.invokevirtual 73, 3) := by decide +kernel
theorem dL_ifDone_10 : decode cL_ifDone 10 = .ok (.i2l, 1) := by decide +kernel
theorem dL_ifDone_11 : decode cL_ifDone 11 = .ok (.lastore, 1) := by decide +kernel
theorem dL_ifDone_12 : decode cL_ifDone 12 = .ok (.goto 11, 3) := by decide +kernel
theorem dL_ifDone_15 : decode cL_ifDone 15 = .ok (.astore 5, 2) := by decide +kernel
theorem dL_ifDone_17 : decode cL_ifDone 17 = .ok (.iconst 1, 1) := by decide +kernel
theorem dL_ifDone_18 : decode cL_ifDone 18 = .ok (.ireturn, 1) := by decide +kernel
theorem dL_ifDone_19 : decode cL_ifDone 19 = .ok (.astore 5, 2) := by decide +kernel
theorem dL_ifDone_21 : decode cL_ifDone 21 = .ok (.iconst 2, 1) := by decide +kernel
theorem dL_ifDone_22 : decode cL_ifDone 22 = .ok (.ireturn, 1) := by decide +kernel
theorem dL_ifDone_23 : decode cL_ifDone 23 = .ok (.iconst 0, 1) := by decide +kernel
theorem dL_ifDone_24 : decode cL_ifDone 24 = .ok (.ireturn, 1) := by decide +kernel
theorem dL_bears_0 : decode cL_bears 0 = .ok (.aload_n 2, 1) := by decide +kernel
theorem dL_bears_1 : decode cL_bears 1 = .ok (.iconst 0, 1) := by decide +kernel
theorem dL_bears_2 : decode cL_bears 2 = .ok (.aload_n 0, 1) := by decide +kernel
theorem dL_bears_3 : decode cL_bears 3 = .ok (.iload_n 1, 1) := by decide +kernel
theorem dL_bears_4 : decode cL_bears 4 = .ok (.invokevirtual 76, 3) := by decide +kernel
theorem dL_bears_7 : decode cL_bears 7 = .ok (.i2l, 1) := by decide +kernel
theorem dL_bears_8 : decode cL_bears 8 = .ok (.lastore, 1) := by decide +kernel
theorem dL_bears_9 : decode cL_bears 9 = .ok (.goto 6, 3) := by decide +kernel
theorem dL_bears_12 : decode cL_bears 12 = .ok (.astore_n 3, 1) := by decide +kernel
theorem dL_bears_13 : decode cL_bears 13 = .ok (.iconst 1, 1) := by decide +kernel
theorem dL_bears_14 : decode cL_bears 14 = .ok (.ireturn, 1) := by decide +kernel
theorem dL_bears_15 : decode cL_bears 15 = .ok (.iconst 0, 1) := by decide +kernel
theorem dL_bears_16 : decode cL_bears 16 = .ok (.ireturn, 1) := by decide +kernel
theorem dL_bestRule_0 : decode cL_bestRule 0 = .ok (.aload_n 3, 1) := by decide +kernel
theorem dL_bestRule_1 : decode cL_bestRule 1 = .ok (.iconst 0, 1) := by decide +kernel
theorem dL_bestRule_2 : decode cL_bestRule 2 = .ok (.aload_n 0, 1) := by decide +kernel
theorem dL_bestRule_3 : decode cL_bestRule 3 = .ok (.iload_n 1, 1) := by decide +kernel
theorem dL_bestRule_4 : decode cL_bestRule 4 = .ok (.iload_n 2, 1) := by decide +kernel
theorem dL_bestRule_5 : decode cL_bestRule 5 = .ok (.invokevirtual 79, 3) := by decide +kernel
theorem dL_bestRule_8 : decode cL_bestRule 8 = .ok (.i2l, 1) := by decide +kernel
theorem dL_bestRule_9 : decode cL_bestRule 9 = .ok (.lastore, 1) := by decide +kernel
theorem dL_bestRule_10 : decode cL_bestRule 10 = .ok (.goto 11, 3) := by decide +kernel
theorem dL_bestRule_13 : decode cL_bestRule 13 = .ok (.astore 4, 2) := by decide +kernel
theorem dL_bestRule_15 : decode cL_bestRule 15 = .ok (.iconst 1, 1) := by decide +kernel
theorem dL_bestRule_16 : decode cL_bestRule 16 = .ok (.ireturn, 1) := by decide +kernel
theorem dL_bestRule_17 : decode cL_bestRule 17 = .ok (.astore 4, 2) := by decide +kernel
theorem dL_bestRule_19 : decode cL_bestRule 19 = .ok (.iconst 2, 1) := by decide +kernel
theorem dL_bestRule_20 : decode cL_bestRule 20 = .ok (.ireturn, 1) := by decide +kernel
theorem dL_bestRule_21 : decode cL_bestRule 21 = .ok (.iconst 0, 1) := by decide +kernel
theorem dL_bestRule_22 : decode cL_bestRule 22 = .ok (.ireturn, 1) := by decide +kernel
theorem dL_law_0 : decode cL_law 0 = .ok (.new 8, 3) := by decide +kernel
theorem dL_law_3 : decode cL_law 3 = .ok (.dup, 1) := by decide +kernel
theorem dL_law_4 : decode cL_law 4 = .ok (.invokespecial 82, 3) := by decide +kernel
theorem dL_law_7 : decode cL_law 7 = .ok (.astore_n 1, 1) := by decide +kernel
theorem dL_law_8 : decode cL_law 8 = .ok (.new 83, 3) := by decide +kernel
theorem dL_law_11 : decode cL_law 11 = .ok (.dup, 1) := by decide +kernel
theorem dL_law_12 : decode cL_law 12 = .ok (.invokespecial 85, 3) := by decide +kernel
theorem dL_law_15 : decode cL_law 15 = .ok (.astore_n 2, 1) := by decide +kernel
theorem dL_law_16 : decode cL_law 16 = .ok (.iconst 1, 1) := by decide +kernel
theorem dL_law_17 : decode cL_law 17 = .ok (.newarray .long, 2) := by decide +kernel
theorem dL_law_19 : decode cL_law 19 = .ok (.astore_n 3, 1) := by decide +kernel
theorem dL_law_20 : decode cL_law 20 = .ok (.iconst 0, 1) := by decide +kernel
theorem dL_law_21 : decode cL_law 21 = .ok (.istore 4, 2) := by decide +kernel
theorem dL_law_23 : decode cL_law 23 = .ok (.iload 4, 2) := by decide +kernel
theorem dL_law_25 : decode cL_law 25 = .ok (.aload_n 0, 1) := by decide +kernel
theorem dL_law_26 : decode cL_law 26 = .ok (.arraylength, 1) := by decide +kernel
theorem dL_law_27 : decode cL_law 27 = .ok (.iconst 4, 1) := by decide +kernel
theorem dL_law_28 : decode cL_law 28 = .ok (.isub, 1) := by decide +kernel
theorem dL_law_29 : decode cL_law 29 = .ok (.if_icmp .gt 1595, 3) := by decide +kernel
theorem dL_law_32 : decode cL_law 32 = .ok (.aload_n 0, 1) := by decide +kernel
theorem dL_law_33 : decode cL_law 33 = .ok (.iload 4, 2) := by decide +kernel
theorem dL_law_35 : decode cL_law 35 = .ok (.iaload, 1) := by decide +kernel
theorem dL_law_36 : decode cL_law 36 = .ok (.bipush 31, 2) := by decide +kernel
theorem dL_law_38 : decode cL_law 38 = .ok (.iand, 1) := by decide +kernel
theorem dL_law_39 : decode cL_law 39 = .ok (.tableswitch 1579 0 25 #[117, 185, 253, 321, 389, 457, 537, 617, 673, 729, 742, 755, 799, 843, 911, 991, 1059, 1127, 1195, 1251, 1307, 1387, 1443, 1456, 1524, 1565], 117) := by decide +kernel
theorem dL_law_156 : decode cL_law 156 = .ok (.aload_n 1, 1) := by decide +kernel
theorem dL_law_157 : decode cL_law 157 = .ok (.aload_n 0, 1) := by decide +kernel
theorem dL_law_158 : decode cL_law 158 = .ok (.iload 4, 2) := by decide +kernel
theorem dL_law_160 : decode cL_law 160 = .ok (.iconst 1, 1) := by decide +kernel
theorem dL_law_161 : decode cL_law 161 = .ok (.iadd, 1) := by decide +kernel
theorem dL_law_162 : decode cL_law 162 = .ok (.iaload, 1) := by decide +kernel
theorem dL_law_163 : decode cL_law 163 = .ok (.aload_n 0, 1) := by decide +kernel
theorem dL_law_164 : decode cL_law 164 = .ok (.iload 4, 2) := by decide +kernel
theorem dL_law_166 : decode cL_law 166 = .ok (.iconst 2, 1) := by decide +kernel
theorem dL_law_167 : decode cL_law 167 = .ok (.iadd, 1) := by decide +kernel
theorem dL_law_168 : decode cL_law 168 = .ok (.iaload, 1) := by decide +kernel
theorem dL_law_169 : decode cL_law 169 = .ok (.aload_n 3, 1) := by decide +kernel
theorem dL_law_170 : decode cL_law 170 = .ok (.invokestatic 86, 3) := by decide +kernel
theorem dL_law_173 : decode cL_law 173 = .ok (.istore 5, 2) := by decide +kernel
theorem dL_law_175 : decode cL_law 175 = .ok (.aload_n 2, 1) := by decide +kernel
theorem dL_law_176 : decode cL_law 176 = .ok (.aload_n 0, 1) := by decide +kernel
theorem dL_law_177 : decode cL_law 177 = .ok (.iload 4, 2) := by decide +kernel
theorem dL_law_179 : decode cL_law 179 = .ok (.iconst 1, 1) := by decide +kernel
theorem dL_law_180 : decode cL_law 180 = .ok (.iadd, 1) := by decide +kernel
theorem dL_law_181 : decode cL_law 181 = .ok (.iaload, 1) := by decide +kernel
theorem dL_law_182 : decode cL_law 182 = .ok (.aload_n 0, 1) := by decide +kernel
theorem dL_law_183 : decode cL_law 183 = .ok (.iload 4, 2) := by decide +kernel
theorem dL_law_185 : decode cL_law 185 = .ok (.iconst 2, 1) := by decide +kernel
theorem dL_law_186 : decode cL_law 186 = .ok (.iadd, 1) := by decide +kernel
theorem dL_law_187 : decode cL_law 187 = .ok (.iaload, 1) := by decide +kernel
theorem dL_law_188 : decode cL_law 188 = .ok (.invokevirtual 91, 3) := by decide +kernel
theorem dL_law_191 : decode cL_law 191 = .ok (.istore 6, 2) := by decide +kernel
theorem dL_law_193 : decode cL_law 193 = .ok (.aload_n 2, 1) := by decide +kernel
theorem dL_law_194 : decode cL_law 194 = .ok (.invokevirtual 92, 3) := by decide +kernel
theorem dL_law_197 : decode cL_law 197 = .ok (.iload 5, 2) := by decide +kernel
theorem dL_law_199 : decode cL_law 199 = .ok (.if_icmp .eq 5, 3) := by decide +kernel
theorem dL_law_202 : decode cL_law 202 = .ok (.iconst 0, 1) := by decide +kernel
theorem dL_law_203 : decode cL_law 203 = .ok (.ireturn, 1) := by decide +kernel
theorem dL_law_204 : decode cL_law 204 = .ok (.iload 5, 2) := by decide +kernel
theorem dL_law_206 : decode cL_law 206 = .ok (.ifCond .ne 15, 3) := by decide +kernel
theorem dL_law_209 : decode cL_law 209 = .ok (.aload_n 3, 1) := by decide +kernel
theorem dL_law_210 : decode cL_law 210 = .ok (.iconst 0, 1) := by decide +kernel
theorem dL_law_211 : decode cL_law 211 = .ok (.laload, 1) := by decide +kernel
theorem dL_law_212 : decode cL_law 212 = .ok (.iload 6, 2) := by decide +kernel
theorem dL_law_214 : decode cL_law 214 = .ok (.i2l, 1) := by decide +kernel
theorem dL_law_215 : decode cL_law 215 = .ok (.lcmp, 1) := by decide +kernel
theorem dL_law_216 : decode cL_law 216 = .ok (.ifCond .eq 5, 3) := by decide +kernel
theorem dL_law_219 : decode cL_law 219 = .ok (.iconst 0, 1) := by decide +kernel
theorem dL_law_220 : decode cL_law 220 = .ok (.ireturn, 1) := by decide +kernel
theorem dL_law_221 : decode cL_law 221 = .ok (.goto 1397, 3) := by decide +kernel
theorem dL_law_224 : decode cL_law 224 = .ok (.aload_n 1, 1) := by decide +kernel
theorem dL_law_225 : decode cL_law 225 = .ok (.aload_n 0, 1) := by decide +kernel
theorem dL_law_226 : decode cL_law 226 = .ok (.iload 4, 2) := by decide +kernel
theorem dL_law_228 : decode cL_law 228 = .ok (.iconst 1, 1) := by decide +kernel
theorem dL_law_229 : decode cL_law 229 = .ok (.iadd, 1) := by decide +kernel
theorem dL_law_230 : decode cL_law 230 = .ok (.iaload, 1) := by decide +kernel
theorem dL_law_231 : decode cL_law 231 = .ok (.aload_n 0, 1) := by decide +kernel
theorem dL_law_232 : decode cL_law 232 = .ok (.iload 4, 2) := by decide +kernel
theorem dL_law_234 : decode cL_law 234 = .ok (.iconst 2, 1) := by decide +kernel
theorem dL_law_235 : decode cL_law 235 = .ok (.iadd, 1) := by decide +kernel
theorem dL_law_236 : decode cL_law 236 = .ok (.iaload, 1) := by decide +kernel
theorem dL_law_237 : decode cL_law 237 = .ok (.aload_n 3, 1) := by decide +kernel
theorem dL_law_238 : decode cL_law 238 = .ok (.invokestatic 95, 3) := by decide +kernel
theorem dL_law_241 : decode cL_law 241 = .ok (.istore 5, 2) := by decide +kernel
theorem dL_law_243 : decode cL_law 243 = .ok (.aload_n 2, 1) := by decide +kernel
theorem dL_law_244 : decode cL_law 244 = .ok (.aload_n 0, 1) := by decide +kernel
theorem dL_law_245 : decode cL_law 245 = .ok (.iload 4, 2) := by decide +kernel
theorem dL_law_247 : decode cL_law 247 = .ok (.iconst 1, 1) := by decide +kernel
theorem dL_law_248 : decode cL_law 248 = .ok (.iadd, 1) := by decide +kernel
theorem dL_law_249 : decode cL_law 249 = .ok (.iaload, 1) := by decide +kernel
theorem dL_law_250 : decode cL_law 250 = .ok (.aload_n 0, 1) := by decide +kernel
theorem dL_law_251 : decode cL_law 251 = .ok (.iload 4, 2) := by decide +kernel
theorem dL_law_253 : decode cL_law 253 = .ok (.iconst 2, 1) := by decide +kernel
theorem dL_law_254 : decode cL_law 254 = .ok (.iadd, 1) := by decide +kernel
theorem dL_law_255 : decode cL_law 255 = .ok (.iaload, 1) := by decide +kernel
theorem dL_law_256 : decode cL_law 256 = .ok (.invokevirtual 97, 3) := by decide +kernel
theorem dL_law_259 : decode cL_law 259 = .ok (.istore 6, 2) := by decide +kernel
theorem dL_law_261 : decode cL_law 261 = .ok (.aload_n 2, 1) := by decide +kernel
theorem dL_law_262 : decode cL_law 262 = .ok (.invokevirtual 92, 3) := by decide +kernel
theorem dL_law_265 : decode cL_law 265 = .ok (.iload 5, 2) := by decide +kernel
theorem dL_law_267 : decode cL_law 267 = .ok (.if_icmp .eq 5, 3) := by decide +kernel
theorem dL_law_270 : decode cL_law 270 = .ok (.iconst 0, 1) := by decide +kernel
theorem dL_law_271 : decode cL_law 271 = .ok (.ireturn, 1) := by decide +kernel
theorem dL_law_272 : decode cL_law 272 = .ok (.iload 5, 2) := by decide +kernel
theorem dL_law_274 : decode cL_law 274 = .ok (.ifCond .ne 15, 3) := by decide +kernel
theorem dL_law_277 : decode cL_law 277 = .ok (.aload_n 3, 1) := by decide +kernel
theorem dL_law_278 : decode cL_law 278 = .ok (.iconst 0, 1) := by decide +kernel
theorem dL_law_279 : decode cL_law 279 = .ok (.laload, 1) := by decide +kernel
theorem dL_law_280 : decode cL_law 280 = .ok (.iload 6, 2) := by decide +kernel
theorem dL_law_282 : decode cL_law 282 = .ok (.i2l, 1) := by decide +kernel
theorem dL_law_283 : decode cL_law 283 = .ok (.lcmp, 1) := by decide +kernel
theorem dL_law_284 : decode cL_law 284 = .ok (.ifCond .eq 5, 3) := by decide +kernel
theorem dL_law_287 : decode cL_law 287 = .ok (.iconst 0, 1) := by decide +kernel
theorem dL_law_288 : decode cL_law 288 = .ok (.ireturn, 1) := by decide +kernel
theorem dL_law_289 : decode cL_law 289 = .ok (.goto 1329, 3) := by decide +kernel
theorem dL_law_292 : decode cL_law 292 = .ok (.aload_n 1, 1) := by decide +kernel
theorem dL_law_293 : decode cL_law 293 = .ok (.aload_n 0, 1) := by decide +kernel
theorem dL_law_294 : decode cL_law 294 = .ok (.iload 4, 2) := by decide +kernel
theorem dL_law_296 : decode cL_law 296 = .ok (.iconst 1, 1) := by decide +kernel
theorem dL_law_297 : decode cL_law 297 = .ok (.iadd, 1) := by decide +kernel
theorem dL_law_298 : decode cL_law 298 = .ok (.iaload, 1) := by decide +kernel
theorem dL_law_299 : decode cL_law 299 = .ok (.aload_n 0, 1) := by decide +kernel
theorem dL_law_300 : decode cL_law 300 = .ok (.iload 4, 2) := by decide +kernel
theorem dL_law_302 : decode cL_law 302 = .ok (.iconst 2, 1) := by decide +kernel
theorem dL_law_303 : decode cL_law 303 = .ok (.iadd, 1) := by decide +kernel
theorem dL_law_304 : decode cL_law 304 = .ok (.iaload, 1) := by decide +kernel
theorem dL_law_305 : decode cL_law 305 = .ok (.aload_n 3, 1) := by decide +kernel
theorem dL_law_306 : decode cL_law 306 = .ok (.invokestatic 98, 3) := by decide +kernel
theorem dL_law_309 : decode cL_law 309 = .ok (.istore 5, 2) := by decide +kernel
theorem dL_law_311 : decode cL_law 311 = .ok (.aload_n 2, 1) := by decide +kernel
theorem dL_law_312 : decode cL_law 312 = .ok (.aload_n 0, 1) := by decide +kernel
theorem dL_law_313 : decode cL_law 313 = .ok (.iload 4, 2) := by decide +kernel
theorem dL_law_315 : decode cL_law 315 = .ok (.iconst 1, 1) := by decide +kernel
theorem dL_law_316 : decode cL_law 316 = .ok (.iadd, 1) := by decide +kernel
theorem dL_law_317 : decode cL_law 317 = .ok (.iaload, 1) := by decide +kernel
theorem dL_law_318 : decode cL_law 318 = .ok (.aload_n 0, 1) := by decide +kernel
theorem dL_law_319 : decode cL_law 319 = .ok (.iload 4, 2) := by decide +kernel
theorem dL_law_321 : decode cL_law 321 = .ok (.iconst 2, 1) := by decide +kernel
theorem dL_law_322 : decode cL_law 322 = .ok (.iadd, 1) := by decide +kernel
theorem dL_law_323 : decode cL_law 323 = .ok (.iaload, 1) := by decide +kernel
theorem dL_law_324 : decode cL_law 324 = .ok (.invokevirtual 100, 3) := by decide +kernel
theorem dL_law_327 : decode cL_law 327 = .ok (.istore 6, 2) := by decide +kernel
theorem dL_law_329 : decode cL_law 329 = .ok (.aload_n 2, 1) := by decide +kernel
theorem dL_law_330 : decode cL_law 330 = .ok (.invokevirtual 92, 3) := by decide +kernel
theorem dL_law_333 : decode cL_law 333 = .ok (.iload 5, 2) := by decide +kernel
theorem dL_law_335 : decode cL_law 335 = .ok (.if_icmp .eq 5, 3) := by decide +kernel
theorem dL_law_338 : decode cL_law 338 = .ok (.iconst 0, 1) := by decide +kernel
theorem dL_law_339 : decode cL_law 339 = .ok (.ireturn, 1) := by decide +kernel
theorem dL_law_340 : decode cL_law 340 = .ok (.iload 5, 2) := by decide +kernel
theorem dL_law_342 : decode cL_law 342 = .ok (.ifCond .ne 15, 3) := by decide +kernel
theorem dL_law_345 : decode cL_law 345 = .ok (.aload_n 3, 1) := by decide +kernel
theorem dL_law_346 : decode cL_law 346 = .ok (.iconst 0, 1) := by decide +kernel
theorem dL_law_347 : decode cL_law 347 = .ok (.laload, 1) := by decide +kernel
theorem dL_law_348 : decode cL_law 348 = .ok (.iload 6, 2) := by decide +kernel
theorem dL_law_350 : decode cL_law 350 = .ok (.i2l, 1) := by decide +kernel
theorem dL_law_351 : decode cL_law 351 = .ok (.lcmp, 1) := by decide +kernel
theorem dL_law_352 : decode cL_law 352 = .ok (.ifCond .eq 5, 3) := by decide +kernel
theorem dL_law_355 : decode cL_law 355 = .ok (.iconst 0, 1) := by decide +kernel
theorem dL_law_356 : decode cL_law 356 = .ok (.ireturn, 1) := by decide +kernel
theorem dL_law_357 : decode cL_law 357 = .ok (.goto 1261, 3) := by decide +kernel
theorem dL_law_360 : decode cL_law 360 = .ok (.aload_n 1, 1) := by decide +kernel
theorem dL_law_361 : decode cL_law 361 = .ok (.aload_n 0, 1) := by decide +kernel
theorem dL_law_362 : decode cL_law 362 = .ok (.iload 4, 2) := by decide +kernel
theorem dL_law_364 : decode cL_law 364 = .ok (.iconst 1, 1) := by decide +kernel
theorem dL_law_365 : decode cL_law 365 = .ok (.iadd, 1) := by decide +kernel
theorem dL_law_366 : decode cL_law 366 = .ok (.iaload, 1) := by decide +kernel
theorem dL_law_367 : decode cL_law 367 = .ok (.aload_n 0, 1) := by decide +kernel
theorem dL_law_368 : decode cL_law 368 = .ok (.iload 4, 2) := by decide +kernel
theorem dL_law_370 : decode cL_law 370 = .ok (.iconst 2, 1) := by decide +kernel
theorem dL_law_371 : decode cL_law 371 = .ok (.iadd, 1) := by decide +kernel
theorem dL_law_372 : decode cL_law 372 = .ok (.iaload, 1) := by decide +kernel
theorem dL_law_373 : decode cL_law 373 = .ok (.aload_n 3, 1) := by decide +kernel
theorem dL_law_374 : decode cL_law 374 = .ok (.invokestatic 101, 3) := by decide +kernel
theorem dL_law_377 : decode cL_law 377 = .ok (.istore 5, 2) := by decide +kernel
theorem dL_law_379 : decode cL_law 379 = .ok (.aload_n 2, 1) := by decide +kernel
theorem dL_law_380 : decode cL_law 380 = .ok (.aload_n 0, 1) := by decide +kernel
theorem dL_law_381 : decode cL_law 381 = .ok (.iload 4, 2) := by decide +kernel
theorem dL_law_383 : decode cL_law 383 = .ok (.iconst 1, 1) := by decide +kernel
theorem dL_law_384 : decode cL_law 384 = .ok (.iadd, 1) := by decide +kernel
theorem dL_law_385 : decode cL_law 385 = .ok (.iaload, 1) := by decide +kernel
theorem dL_law_386 : decode cL_law 386 = .ok (.aload_n 0, 1) := by decide +kernel
theorem dL_law_387 : decode cL_law 387 = .ok (.iload 4, 2) := by decide +kernel
theorem dL_law_389 : decode cL_law 389 = .ok (.iconst 2, 1) := by decide +kernel
theorem dL_law_390 : decode cL_law 390 = .ok (.iadd, 1) := by decide +kernel
theorem dL_law_391 : decode cL_law 391 = .ok (.iaload, 1) := by decide +kernel
theorem dL_law_392 : decode cL_law 392 = .ok (.invokevirtual 103, 3) := by decide +kernel
theorem dL_law_395 : decode cL_law 395 = .ok (.istore 6, 2) := by decide +kernel
theorem dL_law_397 : decode cL_law 397 = .ok (.aload_n 2, 1) := by decide +kernel
theorem dL_law_398 : decode cL_law 398 = .ok (.invokevirtual 92, 3) := by decide +kernel
theorem dL_law_401 : decode cL_law 401 = .ok (.iload 5, 2) := by decide +kernel
theorem dL_law_403 : decode cL_law 403 = .ok (.if_icmp .eq 5, 3) := by decide +kernel
theorem dL_law_406 : decode cL_law 406 = .ok (.iconst 0, 1) := by decide +kernel
theorem dL_law_407 : decode cL_law 407 = .ok (.ireturn, 1) := by decide +kernel
theorem dL_law_408 : decode cL_law 408 = .ok (.iload 5, 2) := by decide +kernel
theorem dL_law_410 : decode cL_law 410 = .ok (.ifCond .ne 15, 3) := by decide +kernel
theorem dL_law_413 : decode cL_law 413 = .ok (.aload_n 3, 1) := by decide +kernel
theorem dL_law_414 : decode cL_law 414 = .ok (.iconst 0, 1) := by decide +kernel
theorem dL_law_415 : decode cL_law 415 = .ok (.laload, 1) := by decide +kernel
theorem dL_law_416 : decode cL_law 416 = .ok (.iload 6, 2) := by decide +kernel
theorem dL_law_418 : decode cL_law 418 = .ok (.i2l, 1) := by decide +kernel
theorem dL_law_419 : decode cL_law 419 = .ok (.lcmp, 1) := by decide +kernel
theorem dL_law_420 : decode cL_law 420 = .ok (.ifCond .eq 5, 3) := by decide +kernel
theorem dL_law_423 : decode cL_law 423 = .ok (.iconst 0, 1) := by decide +kernel
theorem dL_law_424 : decode cL_law 424 = .ok (.ireturn, 1) := by decide +kernel
theorem dL_law_425 : decode cL_law 425 = .ok (.goto 1193, 3) := by decide +kernel
theorem dL_law_428 : decode cL_law 428 = .ok (.aload_n 1, 1) := by decide +kernel
theorem dL_law_429 : decode cL_law 429 = .ok (.aload_n 0, 1) := by decide +kernel
theorem dL_law_430 : decode cL_law 430 = .ok (.iload 4, 2) := by decide +kernel
theorem dL_law_432 : decode cL_law 432 = .ok (.iconst 1, 1) := by decide +kernel
theorem dL_law_433 : decode cL_law 433 = .ok (.iadd, 1) := by decide +kernel
theorem dL_law_434 : decode cL_law 434 = .ok (.iaload, 1) := by decide +kernel
theorem dL_law_435 : decode cL_law 435 = .ok (.aload_n 0, 1) := by decide +kernel
theorem dL_law_436 : decode cL_law 436 = .ok (.iload 4, 2) := by decide +kernel
theorem dL_law_438 : decode cL_law 438 = .ok (.iconst 2, 1) := by decide +kernel
theorem dL_law_439 : decode cL_law 439 = .ok (.iadd, 1) := by decide +kernel
theorem dL_law_440 : decode cL_law 440 = .ok (.iaload, 1) := by decide +kernel
theorem dL_law_441 : decode cL_law 441 = .ok (.aload_n 3, 1) := by decide +kernel
theorem dL_law_442 : decode cL_law 442 = .ok (.invokestatic 104, 3) := by decide +kernel
theorem dL_law_445 : decode cL_law 445 = .ok (.istore 5, 2) := by decide +kernel
theorem dL_law_447 : decode cL_law 447 = .ok (.aload_n 2, 1) := by decide +kernel
theorem dL_law_448 : decode cL_law 448 = .ok (.aload_n 0, 1) := by decide +kernel
theorem dL_law_449 : decode cL_law 449 = .ok (.iload 4, 2) := by decide +kernel
theorem dL_law_451 : decode cL_law 451 = .ok (.iconst 1, 1) := by decide +kernel
theorem dL_law_452 : decode cL_law 452 = .ok (.iadd, 1) := by decide +kernel
theorem dL_law_453 : decode cL_law 453 = .ok (.iaload, 1) := by decide +kernel
theorem dL_law_454 : decode cL_law 454 = .ok (.aload_n 0, 1) := by decide +kernel
theorem dL_law_455 : decode cL_law 455 = .ok (.iload 4, 2) := by decide +kernel
theorem dL_law_457 : decode cL_law 457 = .ok (.iconst 2, 1) := by decide +kernel
theorem dL_law_458 : decode cL_law 458 = .ok (.iadd, 1) := by decide +kernel
theorem dL_law_459 : decode cL_law 459 = .ok (.iaload, 1) := by decide +kernel
theorem dL_law_460 : decode cL_law 460 = .ok (.invokevirtual 106, 3) := by decide +kernel
theorem dL_law_463 : decode cL_law 463 = .ok (.istore 6, 2) := by decide +kernel
theorem dL_law_465 : decode cL_law 465 = .ok (.aload_n 2, 1) := by decide +kernel
theorem dL_law_466 : decode cL_law 466 = .ok (.invokevirtual 92, 3) := by decide +kernel
theorem dL_law_469 : decode cL_law 469 = .ok (.iload 5, 2) := by decide +kernel
theorem dL_law_471 : decode cL_law 471 = .ok (.if_icmp .eq 5, 3) := by decide +kernel
theorem dL_law_474 : decode cL_law 474 = .ok (.iconst 0, 1) := by decide +kernel
theorem dL_law_475 : decode cL_law 475 = .ok (.ireturn, 1) := by decide +kernel
theorem dL_law_476 : decode cL_law 476 = .ok (.iload 5, 2) := by decide +kernel
theorem dL_law_478 : decode cL_law 478 = .ok (.ifCond .ne 15, 3) := by decide +kernel
theorem dL_law_481 : decode cL_law 481 = .ok (.aload_n 3, 1) := by decide +kernel
theorem dL_law_482 : decode cL_law 482 = .ok (.iconst 0, 1) := by decide +kernel
theorem dL_law_483 : decode cL_law 483 = .ok (.laload, 1) := by decide +kernel
theorem dL_law_484 : decode cL_law 484 = .ok (.iload 6, 2) := by decide +kernel
theorem dL_law_486 : decode cL_law 486 = .ok (.i2l, 1) := by decide +kernel
theorem dL_law_487 : decode cL_law 487 = .ok (.lcmp, 1) := by decide +kernel
theorem dL_law_488 : decode cL_law 488 = .ok (.ifCond .eq 5, 3) := by decide +kernel
theorem dL_law_491 : decode cL_law 491 = .ok (.iconst 0, 1) := by decide +kernel
theorem dL_law_492 : decode cL_law 492 = .ok (.ireturn, 1) := by decide +kernel
theorem dL_law_493 : decode cL_law 493 = .ok (.goto 1125, 3) := by decide +kernel
theorem dL_law_496 : decode cL_law 496 = .ok (.aload_n 1, 1) := by decide +kernel
theorem dL_law_497 : decode cL_law 497 = .ok (.aload_n 0, 1) := by decide +kernel
theorem dL_law_498 : decode cL_law 498 = .ok (.iload 4, 2) := by decide +kernel
theorem dL_law_500 : decode cL_law 500 = .ok (.iconst 1, 1) := by decide +kernel
theorem dL_law_501 : decode cL_law 501 = .ok (.iadd, 1) := by decide +kernel
theorem dL_law_502 : decode cL_law 502 = .ok (.iaload, 1) := by decide +kernel
theorem dL_law_503 : decode cL_law 503 = .ok (.aload_n 0, 1) := by decide +kernel
theorem dL_law_504 : decode cL_law 504 = .ok (.iload 4, 2) := by decide +kernel
theorem dL_law_506 : decode cL_law 506 = .ok (.iconst 2, 1) := by decide +kernel
theorem dL_law_507 : decode cL_law 507 = .ok (.iadd, 1) := by decide +kernel
theorem dL_law_508 : decode cL_law 508 = .ok (.iaload, 1) := by decide +kernel
theorem dL_law_509 : decode cL_law 509 = .ok (.aload_n 0, 1) := by decide +kernel
theorem dL_law_510 : decode cL_law 510 = .ok (.iload 4, 2) := by decide +kernel
theorem dL_law_512 : decode cL_law 512 = .ok (.iconst 3, 1) := by decide +kernel
theorem dL_law_513 : decode cL_law 513 = .ok (.iadd, 1) := by decide +kernel
theorem dL_law_514 : decode cL_law 514 = .ok (.iaload, 1) := by decide +kernel
theorem dL_law_515 : decode cL_law 515 = .ok (.aload_n 3, 1) := by decide +kernel
theorem dL_law_516 : decode cL_law 516 = .ok (.invokestatic 107, 3) := by decide +kernel
theorem dL_law_519 : decode cL_law 519 = .ok (.istore 5, 2) := by decide +kernel
theorem dL_law_521 : decode cL_law 521 = .ok (.aload_n 2, 1) := by decide +kernel
theorem dL_law_522 : decode cL_law 522 = .ok (.aload_n 0, 1) := by decide +kernel
theorem dL_law_523 : decode cL_law 523 = .ok (.iload 4, 2) := by decide +kernel
theorem dL_law_525 : decode cL_law 525 = .ok (.iconst 1, 1) := by decide +kernel
theorem dL_law_526 : decode cL_law 526 = .ok (.iadd, 1) := by decide +kernel
theorem dL_law_527 : decode cL_law 527 = .ok (.iaload, 1) := by decide +kernel
theorem dL_law_528 : decode cL_law 528 = .ok (.aload_n 0, 1) := by decide +kernel
theorem dL_law_529 : decode cL_law 529 = .ok (.iload 4, 2) := by decide +kernel
theorem dL_law_531 : decode cL_law 531 = .ok (.iconst 2, 1) := by decide +kernel
theorem dL_law_532 : decode cL_law 532 = .ok (.iadd, 1) := by decide +kernel
theorem dL_law_533 : decode cL_law 533 = .ok (.iaload, 1) := by decide +kernel
theorem dL_law_534 : decode cL_law 534 = .ok (.aload_n 0, 1) := by decide +kernel
theorem dL_law_535 : decode cL_law 535 = .ok (.iload 4, 2) := by decide +kernel
theorem dL_law_537 : decode cL_law 537 = .ok (.iconst 3, 1) := by decide +kernel
theorem dL_law_538 : decode cL_law 538 = .ok (.iadd, 1) := by decide +kernel
theorem dL_law_539 : decode cL_law 539 = .ok (.iaload, 1) := by decide +kernel
theorem dL_law_540 : decode cL_law 540 = .ok (.invokevirtual 110, 3) := by decide +kernel
theorem dL_law_543 : decode cL_law 543 = .ok (.istore 6, 2) := by decide +kernel
theorem dL_law_545 : decode cL_law 545 = .ok (.aload_n 2, 1) := by decide +kernel
theorem dL_law_546 : decode cL_law 546 = .ok (.invokevirtual 92, 3) := by decide +kernel
theorem dL_law_549 : decode cL_law 549 = .ok (.iload 5, 2) := by decide +kernel
theorem dL_law_551 : decode cL_law 551 = .ok (.if_icmp .eq 5, 3) := by decide +kernel
theorem dL_law_554 : decode cL_law 554 = .ok (.iconst 0, 1) := by decide +kernel
theorem dL_law_555 : decode cL_law 555 = .ok (.ireturn, 1) := by decide +kernel
theorem dL_law_556 : decode cL_law 556 = .ok (.iload 5, 2) := by decide +kernel
theorem dL_law_558 : decode cL_law 558 = .ok (.ifCond .ne 15, 3) := by decide +kernel
theorem dL_law_561 : decode cL_law 561 = .ok (.aload_n 3, 1) := by decide +kernel
theorem dL_law_562 : decode cL_law 562 = .ok (.iconst 0, 1) := by decide +kernel
theorem dL_law_563 : decode cL_law 563 = .ok (.laload, 1) := by decide +kernel
theorem dL_law_564 : decode cL_law 564 = .ok (.iload 6, 2) := by decide +kernel
theorem dL_law_566 : decode cL_law 566 = .ok (.i2l, 1) := by decide +kernel
theorem dL_law_567 : decode cL_law 567 = .ok (.lcmp, 1) := by decide +kernel
theorem dL_law_568 : decode cL_law 568 = .ok (.ifCond .eq 5, 3) := by decide +kernel
theorem dL_law_571 : decode cL_law 571 = .ok (.iconst 0, 1) := by decide +kernel
theorem dL_law_572 : decode cL_law 572 = .ok (.ireturn, 1) := by decide +kernel
theorem dL_law_573 : decode cL_law 573 = .ok (.goto 1045, 3) := by decide +kernel
theorem dL_law_576 : decode cL_law 576 = .ok (.aload_n 1, 1) := by decide +kernel
theorem dL_law_577 : decode cL_law 577 = .ok (.aload_n 0, 1) := by decide +kernel
theorem dL_law_578 : decode cL_law 578 = .ok (.iload 4, 2) := by decide +kernel
theorem dL_law_580 : decode cL_law 580 = .ok (.iconst 1, 1) := by decide +kernel
theorem dL_law_581 : decode cL_law 581 = .ok (.iadd, 1) := by decide +kernel
theorem dL_law_582 : decode cL_law 582 = .ok (.iaload, 1) := by decide +kernel
theorem dL_law_583 : decode cL_law 583 = .ok (.aload_n 0, 1) := by decide +kernel
theorem dL_law_584 : decode cL_law 584 = .ok (.iload 4, 2) := by decide +kernel
theorem dL_law_586 : decode cL_law 586 = .ok (.iconst 2, 1) := by decide +kernel
theorem dL_law_587 : decode cL_law 587 = .ok (.iadd, 1) := by decide +kernel
theorem dL_law_588 : decode cL_law 588 = .ok (.iaload, 1) := by decide +kernel
theorem dL_law_589 : decode cL_law 589 = .ok (.aload_n 0, 1) := by decide +kernel
theorem dL_law_590 : decode cL_law 590 = .ok (.iload 4, 2) := by decide +kernel
theorem dL_law_592 : decode cL_law 592 = .ok (.iconst 3, 1) := by decide +kernel
theorem dL_law_593 : decode cL_law 593 = .ok (.iadd, 1) := by decide +kernel
theorem dL_law_594 : decode cL_law 594 = .ok (.iaload, 1) := by decide +kernel
theorem dL_law_595 : decode cL_law 595 = .ok (.aload_n 3, 1) := by decide +kernel
theorem dL_law_596 : decode cL_law 596 = .ok (.invokestatic 111, 3) := by decide +kernel
theorem dL_law_599 : decode cL_law 599 = .ok (.istore 5, 2) := by decide +kernel
theorem dL_law_601 : decode cL_law 601 = .ok (.aload_n 2, 1) := by decide +kernel
theorem dL_law_602 : decode cL_law 602 = .ok (.aload_n 0, 1) := by decide +kernel
theorem dL_law_603 : decode cL_law 603 = .ok (.iload 4, 2) := by decide +kernel
theorem dL_law_605 : decode cL_law 605 = .ok (.iconst 1, 1) := by decide +kernel
theorem dL_law_606 : decode cL_law 606 = .ok (.iadd, 1) := by decide +kernel
theorem dL_law_607 : decode cL_law 607 = .ok (.iaload, 1) := by decide +kernel
theorem dL_law_608 : decode cL_law 608 = .ok (.aload_n 0, 1) := by decide +kernel
theorem dL_law_609 : decode cL_law 609 = .ok (.iload 4, 2) := by decide +kernel
theorem dL_law_611 : decode cL_law 611 = .ok (.iconst 2, 1) := by decide +kernel
theorem dL_law_612 : decode cL_law 612 = .ok (.iadd, 1) := by decide +kernel
theorem dL_law_613 : decode cL_law 613 = .ok (.iaload, 1) := by decide +kernel
theorem dL_law_614 : decode cL_law 614 = .ok (.aload_n 0, 1) := by decide +kernel
theorem dL_law_615 : decode cL_law 615 = .ok (.iload 4, 2) := by decide +kernel
theorem dL_law_617 : decode cL_law 617 = .ok (.iconst 3, 1) := by decide +kernel
theorem dL_law_618 : decode cL_law 618 = .ok (.iadd, 1) := by decide +kernel
theorem dL_law_619 : decode cL_law 619 = .ok (.iaload, 1) := by decide +kernel
theorem dL_law_620 : decode cL_law 620 = .ok (.invokevirtual 113, 3) := by decide +kernel
theorem dL_law_623 : decode cL_law 623 = .ok (.istore 6, 2) := by decide +kernel
theorem dL_law_625 : decode cL_law 625 = .ok (.aload_n 2, 1) := by decide +kernel
theorem dL_law_626 : decode cL_law 626 = .ok (.invokevirtual 92, 3) := by decide +kernel
theorem dL_law_629 : decode cL_law 629 = .ok (.iload 5, 2) := by decide +kernel
theorem dL_law_631 : decode cL_law 631 = .ok (.if_icmp .eq 5, 3) := by decide +kernel
theorem dL_law_634 : decode cL_law 634 = .ok (.iconst 0, 1) := by decide +kernel
theorem dL_law_635 : decode cL_law 635 = .ok (.ireturn, 1) := by decide +kernel
theorem dL_law_636 : decode cL_law 636 = .ok (.iload 5, 2) := by decide +kernel
theorem dL_law_638 : decode cL_law 638 = .ok (.ifCond .ne 15, 3) := by decide +kernel
theorem dL_law_641 : decode cL_law 641 = .ok (.aload_n 3, 1) := by decide +kernel
theorem dL_law_642 : decode cL_law 642 = .ok (.iconst 0, 1) := by decide +kernel
theorem dL_law_643 : decode cL_law 643 = .ok (.laload, 1) := by decide +kernel
theorem dL_law_644 : decode cL_law 644 = .ok (.iload 6, 2) := by decide +kernel
theorem dL_law_646 : decode cL_law 646 = .ok (.i2l, 1) := by decide +kernel
theorem dL_law_647 : decode cL_law 647 = .ok (.lcmp, 1) := by decide +kernel
theorem dL_law_648 : decode cL_law 648 = .ok (.ifCond .eq 5, 3) := by decide +kernel
theorem dL_law_651 : decode cL_law 651 = .ok (.iconst 0, 1) := by decide +kernel
theorem dL_law_652 : decode cL_law 652 = .ok (.ireturn, 1) := by decide +kernel
theorem dL_law_653 : decode cL_law 653 = .ok (.goto 965, 3) := by decide +kernel
theorem dL_law_656 : decode cL_law 656 = .ok (.aload_n 1, 1) := by decide +kernel
theorem dL_law_657 : decode cL_law 657 = .ok (.aload_n 0, 1) := by decide +kernel
theorem dL_law_658 : decode cL_law 658 = .ok (.iload 4, 2) := by decide +kernel
theorem dL_law_660 : decode cL_law 660 = .ok (.iconst 1, 1) := by decide +kernel
theorem dL_law_661 : decode cL_law 661 = .ok (.iadd, 1) := by decide +kernel
theorem dL_law_662 : decode cL_law 662 = .ok (.iaload, 1) := by decide +kernel
theorem dL_law_663 : decode cL_law 663 = .ok (.aload_n 3, 1) := by decide +kernel
theorem dL_law_664 : decode cL_law 664 = .ok (.invokestatic 114, 3) := by decide +kernel
theorem dL_law_667 : decode cL_law 667 = .ok (.istore 5, 2) := by decide +kernel
theorem dL_law_669 : decode cL_law 669 = .ok (.aload_n 2, 1) := by decide +kernel
theorem dL_law_670 : decode cL_law 670 = .ok (.aload_n 0, 1) := by decide +kernel
theorem dL_law_671 : decode cL_law 671 = .ok (.iload 4, 2) := by decide +kernel
theorem dL_law_673 : decode cL_law 673 = .ok (.iconst 1, 1) := by decide +kernel
theorem dL_law_674 : decode cL_law 674 = .ok (.iadd, 1) := by decide +kernel
theorem dL_law_675 : decode cL_law 675 = .ok (.iaload, 1) := by decide +kernel
theorem dL_law_676 : decode cL_law 676 = .ok (.invokevirtual 117, 3) := by decide +kernel
theorem dL_law_679 : decode cL_law 679 = .ok (.istore 6, 2) := by decide +kernel
theorem dL_law_681 : decode cL_law 681 = .ok (.aload_n 2, 1) := by decide +kernel
theorem dL_law_682 : decode cL_law 682 = .ok (.invokevirtual 92, 3) := by decide +kernel
theorem dL_law_685 : decode cL_law 685 = .ok (.iload 5, 2) := by decide +kernel
theorem dL_law_687 : decode cL_law 687 = .ok (.if_icmp .eq 5, 3) := by decide +kernel
theorem dL_law_690 : decode cL_law 690 = .ok (.iconst 0, 1) := by decide +kernel
theorem dL_law_691 : decode cL_law 691 = .ok (.ireturn, 1) := by decide +kernel
theorem dL_law_692 : decode cL_law 692 = .ok (.iload 5, 2) := by decide +kernel
theorem dL_law_694 : decode cL_law 694 = .ok (.ifCond .ne 15, 3) := by decide +kernel
theorem dL_law_697 : decode cL_law 697 = .ok (.aload_n 3, 1) := by decide +kernel
theorem dL_law_698 : decode cL_law 698 = .ok (.iconst 0, 1) := by decide +kernel
theorem dL_law_699 : decode cL_law 699 = .ok (.laload, 1) := by decide +kernel
theorem dL_law_700 : decode cL_law 700 = .ok (.iload 6, 2) := by decide +kernel
theorem dL_law_702 : decode cL_law 702 = .ok (.i2l, 1) := by decide +kernel
theorem dL_law_703 : decode cL_law 703 = .ok (.lcmp, 1) := by decide +kernel
theorem dL_law_704 : decode cL_law 704 = .ok (.ifCond .eq 5, 3) := by decide +kernel
theorem dL_law_707 : decode cL_law 707 = .ok (.iconst 0, 1) := by decide +kernel
theorem dL_law_708 : decode cL_law 708 = .ok (.ireturn, 1) := by decide +kernel
theorem dL_law_709 : decode cL_law 709 = .ok (.goto 909, 3) := by decide +kernel
theorem dL_law_712 : decode cL_law 712 = .ok (.aload_n 1, 1) := by decide +kernel
theorem dL_law_713 : decode cL_law 713 = .ok (.aload_n 0, 1) := by decide +kernel
theorem dL_law_714 : decode cL_law 714 = .ok (.iload 4, 2) := by decide +kernel
theorem dL_law_716 : decode cL_law 716 = .ok (.iconst 1, 1) := by decide +kernel
theorem dL_law_717 : decode cL_law 717 = .ok (.iadd, 1) := by decide +kernel
theorem dL_law_718 : decode cL_law 718 = .ok (.iaload, 1) := by decide +kernel
theorem dL_law_719 : decode cL_law 719 = .ok (.aload_n 3, 1) := by decide +kernel
theorem dL_law_720 : decode cL_law 720 = .ok (.invokestatic 118, 3) := by decide +kernel
theorem dL_law_723 : decode cL_law 723 = .ok (.istore 5, 2) := by decide +kernel
theorem dL_law_725 : decode cL_law 725 = .ok (.aload_n 2, 1) := by decide +kernel
theorem dL_law_726 : decode cL_law 726 = .ok (.aload_n 0, 1) := by decide +kernel
theorem dL_law_727 : decode cL_law 727 = .ok (.iload 4, 2) := by decide +kernel
theorem dL_law_729 : decode cL_law 729 = .ok (.iconst 1, 1) := by decide +kernel
theorem dL_law_730 : decode cL_law 730 = .ok (.iadd, 1) := by decide +kernel
theorem dL_law_731 : decode cL_law 731 = .ok (.iaload, 1) := by decide +kernel
theorem dL_law_732 : decode cL_law 732 = .ok (.invokevirtual 120, 3) := by decide +kernel
theorem dL_law_735 : decode cL_law 735 = .ok (.istore 6, 2) := by decide +kernel
theorem dL_law_737 : decode cL_law 737 = .ok (.aload_n 2, 1) := by decide +kernel
theorem dL_law_738 : decode cL_law 738 = .ok (.invokevirtual 92, 3) := by decide +kernel
theorem dL_law_741 : decode cL_law 741 = .ok (.iload 5, 2) := by decide +kernel
theorem dL_law_743 : decode cL_law 743 = .ok (.if_icmp .eq 5, 3) := by decide +kernel
theorem dL_law_746 : decode cL_law 746 = .ok (.iconst 0, 1) := by decide +kernel
theorem dL_law_747 : decode cL_law 747 = .ok (.ireturn, 1) := by decide +kernel
theorem dL_law_748 : decode cL_law 748 = .ok (.iload 5, 2) := by decide +kernel
theorem dL_law_750 : decode cL_law 750 = .ok (.ifCond .ne 15, 3) := by decide +kernel
theorem dL_law_753 : decode cL_law 753 = .ok (.aload_n 3, 1) := by decide +kernel
theorem dL_law_754 : decode cL_law 754 = .ok (.iconst 0, 1) := by decide +kernel
theorem dL_law_755 : decode cL_law 755 = .ok (.laload, 1) := by decide +kernel
theorem dL_law_756 : decode cL_law 756 = .ok (.iload 6, 2) := by decide +kernel
theorem dL_law_758 : decode cL_law 758 = .ok (.i2l, 1) := by decide +kernel
theorem dL_law_759 : decode cL_law 759 = .ok (.lcmp, 1) := by decide +kernel
theorem dL_law_760 : decode cL_law 760 = .ok (.ifCond .eq 5, 3) := by decide +kernel
theorem dL_law_763 : decode cL_law 763 = .ok (.iconst 0, 1) := by decide +kernel
theorem dL_law_764 : decode cL_law 764 = .ok (.ireturn, 1) := by decide +kernel
theorem dL_law_765 : decode cL_law 765 = .ok (.goto 853, 3) := by decide +kernel
theorem dL_law_768 : decode cL_law 768 = .ok (.aload_n 1, 1) := by decide +kernel
theorem dL_law_769 : decode cL_law 769 = .ok (.invokevirtual 121, 3) := by decide +kernel
theorem dL_law_772 : decode cL_law 772 = .ok (.aload_n 2, 1) := by decide +kernel
theorem dL_law_773 : decode cL_law 773 = .ok (.invokevirtual 124, 3) := by decide +kernel
theorem dL_law_776 : decode cL_law 776 = .ok (.if_icmp .eq 842, 3) := by decide +kernel
theorem dL_law_779 : decode cL_law 779 = .ok (.iconst 0, 1) := by decide +kernel
theorem dL_law_780 : decode cL_law 780 = .ok (.ireturn, 1) := by decide +kernel
theorem dL_law_781 : decode cL_law 781 = .ok (.aload_n 1, 1) := by decide +kernel
theorem dL_law_782 : decode cL_law 782 = .ok (.invokevirtual 125, 3) := by decide +kernel
theorem dL_law_785 : decode cL_law 785 = .ok (.aload_n 2, 1) := by decide +kernel
theorem dL_law_786 : decode cL_law 786 = .ok (.invokevirtual 128, 3) := by decide +kernel
theorem dL_law_789 : decode cL_law 789 = .ok (.if_icmp .eq 829, 3) := by decide +kernel
theorem dL_law_792 : decode cL_law 792 = .ok (.iconst 0, 1) := by decide +kernel
theorem dL_law_793 : decode cL_law 793 = .ok (.ireturn, 1) := by decide +kernel
theorem dL_law_794 : decode cL_law 794 = .ok (.aload_n 1, 1) := by decide +kernel
theorem dL_law_795 : decode cL_law 795 = .ok (.aload_n 3, 1) := by decide +kernel
theorem dL_law_796 : decode cL_law 796 = .ok (.invokestatic 129, 3) := by decide +kernel
theorem dL_law_799 : decode cL_law 799 = .ok (.istore 5, 2) := by decide +kernel
theorem dL_law_801 : decode cL_law 801 = .ok (.aload_n 2, 1) := by decide +kernel
theorem dL_law_802 : decode cL_law 802 = .ok (.invokevirtual 132, 3) := by decide +kernel
theorem dL_law_805 : decode cL_law 805 = .ok (.istore 6, 2) := by decide +kernel
theorem dL_law_807 : decode cL_law 807 = .ok (.aload_n 2, 1) := by decide +kernel
theorem dL_law_808 : decode cL_law 808 = .ok (.invokevirtual 92, 3) := by decide +kernel
theorem dL_law_811 : decode cL_law 811 = .ok (.iload 5, 2) := by decide +kernel
theorem dL_law_813 : decode cL_law 813 = .ok (.if_icmp .eq 5, 3) := by decide +kernel
theorem dL_law_816 : decode cL_law 816 = .ok (.iconst 0, 1) := by decide +kernel
theorem dL_law_817 : decode cL_law 817 = .ok (.ireturn, 1) := by decide +kernel
theorem dL_law_818 : decode cL_law 818 = .ok (.iload 5, 2) := by decide +kernel
theorem dL_law_820 : decode cL_law 820 = .ok (.ifCond .ne 15, 3) := by decide +kernel
theorem dL_law_823 : decode cL_law 823 = .ok (.aload_n 3, 1) := by decide +kernel
theorem dL_law_824 : decode cL_law 824 = .ok (.iconst 0, 1) := by decide +kernel
theorem dL_law_825 : decode cL_law 825 = .ok (.laload, 1) := by decide +kernel
theorem dL_law_826 : decode cL_law 826 = .ok (.iload 6, 2) := by decide +kernel
theorem dL_law_828 : decode cL_law 828 = .ok (.i2l, 1) := by decide +kernel
theorem dL_law_829 : decode cL_law 829 = .ok (.lcmp, 1) := by decide +kernel
theorem dL_law_830 : decode cL_law 830 = .ok (.ifCond .eq 5, 3) := by decide +kernel
theorem dL_law_833 : decode cL_law 833 = .ok (.iconst 0, 1) := by decide +kernel
theorem dL_law_834 : decode cL_law 834 = .ok (.ireturn, 1) := by decide +kernel
theorem dL_law_835 : decode cL_law 835 = .ok (.goto 783, 3) := by decide +kernel
theorem dL_law_838 : decode cL_law 838 = .ok (.aload_n 1, 1) := by decide +kernel
theorem dL_law_839 : decode cL_law 839 = .ok (.aload_n 3, 1) := by decide +kernel
theorem dL_law_840 : decode cL_law 840 = .ok (.invokestatic 133, 3) := by decide +kernel
theorem dL_law_843 : decode cL_law 843 = .ok (.istore 5, 2) := by decide +kernel
theorem dL_law_845 : decode cL_law 845 = .ok (.aload_n 2, 1) := by decide +kernel
theorem dL_law_846 : decode cL_law 846 = .ok (.invokevirtual 135, 3) := by decide +kernel
theorem dL_law_849 : decode cL_law 849 = .ok (.istore 6, 2) := by decide +kernel
theorem dL_law_851 : decode cL_law 851 = .ok (.aload_n 2, 1) := by decide +kernel
theorem dL_law_852 : decode cL_law 852 = .ok (.invokevirtual 92, 3) := by decide +kernel
theorem dL_law_855 : decode cL_law 855 = .ok (.iload 5, 2) := by decide +kernel
theorem dL_law_857 : decode cL_law 857 = .ok (.if_icmp .eq 5, 3) := by decide +kernel
theorem dL_law_860 : decode cL_law 860 = .ok (.iconst 0, 1) := by decide +kernel
theorem dL_law_861 : decode cL_law 861 = .ok (.ireturn, 1) := by decide +kernel
theorem dL_law_862 : decode cL_law 862 = .ok (.iload 5, 2) := by decide +kernel
theorem dL_law_864 : decode cL_law 864 = .ok (.ifCond .ne 15, 3) := by decide +kernel
theorem dL_law_867 : decode cL_law 867 = .ok (.aload_n 3, 1) := by decide +kernel
theorem dL_law_868 : decode cL_law 868 = .ok (.iconst 0, 1) := by decide +kernel
theorem dL_law_869 : decode cL_law 869 = .ok (.laload, 1) := by decide +kernel
theorem dL_law_870 : decode cL_law 870 = .ok (.iload 6, 2) := by decide +kernel
theorem dL_law_872 : decode cL_law 872 = .ok (.i2l, 1) := by decide +kernel
theorem dL_law_873 : decode cL_law 873 = .ok (.lcmp, 1) := by decide +kernel
theorem dL_law_874 : decode cL_law 874 = .ok (.ifCond .eq 5, 3) := by decide +kernel
theorem dL_law_877 : decode cL_law 877 = .ok (.iconst 0, 1) := by decide +kernel
theorem dL_law_878 : decode cL_law 878 = .ok (.ireturn, 1) := by decide +kernel
theorem dL_law_879 : decode cL_law 879 = .ok (.goto 739, 3) := by decide +kernel
theorem dL_law_882 : decode cL_law 882 = .ok (.aload_n 1, 1) := by decide +kernel
theorem dL_law_883 : decode cL_law 883 = .ok (.aload_n 0, 1) := by decide +kernel
theorem dL_law_884 : decode cL_law 884 = .ok (.iload 4, 2) := by decide +kernel
theorem dL_law_886 : decode cL_law 886 = .ok (.iconst 1, 1) := by decide +kernel
theorem dL_law_887 : decode cL_law 887 = .ok (.iadd, 1) := by decide +kernel
theorem dL_law_888 : decode cL_law 888 = .ok (.iaload, 1) := by decide +kernel
theorem dL_law_889 : decode cL_law 889 = .ok (.aload_n 0, 1) := by decide +kernel
theorem dL_law_890 : decode cL_law 890 = .ok (.iload 4, 2) := by decide +kernel
theorem dL_law_892 : decode cL_law 892 = .ok (.iconst 2, 1) := by decide +kernel
theorem dL_law_893 : decode cL_law 893 = .ok (.iadd, 1) := by decide +kernel
theorem dL_law_894 : decode cL_law 894 = .ok (.iaload, 1) := by decide +kernel
theorem dL_law_895 : decode cL_law 895 = .ok (.aload_n 3, 1) := by decide +kernel
theorem dL_law_896 : decode cL_law 896 = .ok (.invokestatic 136, 3) := by decide +kernel
theorem dL_law_899 : decode cL_law 899 = .ok (.istore 5, 2) := by decide +kernel
theorem dL_law_901 : decode cL_law 901 = .ok (.aload_n 2, 1) := by decide +kernel
theorem dL_law_902 : decode cL_law 902 = .ok (.aload_n 0, 1) := by decide +kernel
theorem dL_law_903 : decode cL_law 903 = .ok (.iload 4, 2) := by decide +kernel
theorem dL_law_905 : decode cL_law 905 = .ok (.iconst 1, 1) := by decide +kernel
theorem dL_law_906 : decode cL_law 906 = .ok (.iadd, 1) := by decide +kernel
theorem dL_law_907 : decode cL_law 907 = .ok (.iaload, 1) := by decide +kernel
theorem dL_law_908 : decode cL_law 908 = .ok (.aload_n 0, 1) := by decide +kernel
theorem dL_law_909 : decode cL_law 909 = .ok (.iload 4, 2) := by decide +kernel
theorem dL_law_911 : decode cL_law 911 = .ok (.iconst 2, 1) := by decide +kernel
theorem dL_law_912 : decode cL_law 912 = .ok (.iadd, 1) := by decide +kernel
theorem dL_law_913 : decode cL_law 913 = .ok (.iaload, 1) := by decide +kernel
theorem dL_law_914 : decode cL_law 914 = .ok (.invokevirtual 138, 3) := by decide +kernel
theorem dL_law_917 : decode cL_law 917 = .ok (.istore 6, 2) := by decide +kernel
theorem dL_law_919 : decode cL_law 919 = .ok (.aload_n 2, 1) := by decide +kernel
theorem dL_law_920 : decode cL_law 920 = .ok (.invokevirtual 92, 3) := by decide +kernel
theorem dL_law_923 : decode cL_law 923 = .ok (.iload 5, 2) := by decide +kernel
theorem dL_law_925 : decode cL_law 925 = .ok (.if_icmp .eq 5, 3) := by decide +kernel
theorem dL_law_928 : decode cL_law 928 = .ok (.iconst 0, 1) := by decide +kernel
theorem dL_law_929 : decode cL_law 929 = .ok (.ireturn, 1) := by decide +kernel
theorem dL_law_930 : decode cL_law 930 = .ok (.iload 5, 2) := by decide +kernel
theorem dL_law_932 : decode cL_law 932 = .ok (.ifCond .ne 15, 3) := by decide +kernel
theorem dL_law_935 : decode cL_law 935 = .ok (.aload_n 3, 1) := by decide +kernel
theorem dL_law_936 : decode cL_law 936 = .ok (.iconst 0, 1) := by decide +kernel
theorem dL_law_937 : decode cL_law 937 = .ok (.laload, 1) := by decide +kernel
theorem dL_law_938 : decode cL_law 938 = .ok (.iload 6, 2) := by decide +kernel
theorem dL_law_940 : decode cL_law 940 = .ok (.i2l, 1) := by decide +kernel
theorem dL_law_941 : decode cL_law 941 = .ok (.lcmp, 1) := by decide +kernel
theorem dL_law_942 : decode cL_law 942 = .ok (.ifCond .eq 5, 3) := by decide +kernel
theorem dL_law_945 : decode cL_law 945 = .ok (.iconst 0, 1) := by decide +kernel
theorem dL_law_946 : decode cL_law 946 = .ok (.ireturn, 1) := by decide +kernel
theorem dL_law_947 : decode cL_law 947 = .ok (.goto 671, 3) := by decide +kernel
theorem dL_law_950 : decode cL_law 950 = .ok (.aload_n 1, 1) := by decide +kernel
theorem dL_law_951 : decode cL_law 951 = .ok (.aload_n 0, 1) := by decide +kernel
theorem dL_law_952 : decode cL_law 952 = .ok (.iload 4, 2) := by decide +kernel
theorem dL_law_954 : decode cL_law 954 = .ok (.iconst 1, 1) := by decide +kernel
theorem dL_law_955 : decode cL_law 955 = .ok (.iadd, 1) := by decide +kernel
theorem dL_law_956 : decode cL_law 956 = .ok (.iaload, 1) := by decide +kernel
theorem dL_law_957 : decode cL_law 957 = .ok (.aload_n 0, 1) := by decide +kernel
theorem dL_law_958 : decode cL_law 958 = .ok (.iload 4, 2) := by decide +kernel
theorem dL_law_960 : decode cL_law 960 = .ok (.iconst 2, 1) := by decide +kernel
theorem dL_law_961 : decode cL_law 961 = .ok (.iadd, 1) := by decide +kernel
theorem dL_law_962 : decode cL_law 962 = .ok (.iaload, 1) := by decide +kernel
theorem dL_law_963 : decode cL_law 963 = .ok (.aload_n 0, 1) := by decide +kernel
theorem dL_law_964 : decode cL_law 964 = .ok (.iload 4, 2) := by decide +kernel
theorem dL_law_966 : decode cL_law 966 = .ok (.iconst 3, 1) := by decide +kernel
theorem dL_law_967 : decode cL_law 967 = .ok (.iadd, 1) := by decide +kernel
theorem dL_law_968 : decode cL_law 968 = .ok (.iaload, 1) := by decide +kernel
theorem dL_law_969 : decode cL_law 969 = .ok (.aload_n 3, 1) := by decide +kernel
theorem dL_law_970 : decode cL_law 970 = .ok (.invokestatic 139, 3) := by decide +kernel
theorem dL_law_973 : decode cL_law 973 = .ok (.istore 5, 2) := by decide +kernel
theorem dL_law_975 : decode cL_law 975 = .ok (.aload_n 2, 1) := by decide +kernel
theorem dL_law_976 : decode cL_law 976 = .ok (.aload_n 0, 1) := by decide +kernel
theorem dL_law_977 : decode cL_law 977 = .ok (.iload 4, 2) := by decide +kernel
theorem dL_law_979 : decode cL_law 979 = .ok (.iconst 1, 1) := by decide +kernel
theorem dL_law_980 : decode cL_law 980 = .ok (.iadd, 1) := by decide +kernel
theorem dL_law_981 : decode cL_law 981 = .ok (.iaload, 1) := by decide +kernel
theorem dL_law_982 : decode cL_law 982 = .ok (.aload_n 0, 1) := by decide +kernel
theorem dL_law_983 : decode cL_law 983 = .ok (.iload 4, 2) := by decide +kernel
theorem dL_law_985 : decode cL_law 985 = .ok (.iconst 2, 1) := by decide +kernel
theorem dL_law_986 : decode cL_law 986 = .ok (.iadd, 1) := by decide +kernel
theorem dL_law_987 : decode cL_law 987 = .ok (.iaload, 1) := by decide +kernel
theorem dL_law_988 : decode cL_law 988 = .ok (.aload_n 0, 1) := by decide +kernel
theorem dL_law_989 : decode cL_law 989 = .ok (.iload 4, 2) := by decide +kernel
theorem dL_law_991 : decode cL_law 991 = .ok (.iconst 3, 1) := by decide +kernel
theorem dL_law_992 : decode cL_law 992 = .ok (.iadd, 1) := by decide +kernel
theorem dL_law_993 : decode cL_law 993 = .ok (.iaload, 1) := by decide +kernel
theorem dL_law_994 : decode cL_law 994 = .ok (.invokevirtual 141, 3) := by decide +kernel
theorem dL_law_997 : decode cL_law 997 = .ok (.istore 6, 2) := by decide +kernel
theorem dL_law_999 : decode cL_law 999 = .ok (.aload_n 2, 1) := by decide +kernel
theorem dL_law_1000 : decode cL_law 1000 = .ok (.invokevirtual 92, 3) := by decide +kernel
theorem dL_law_1003 : decode cL_law 1003 = .ok (.iload 5, 2) := by decide +kernel
theorem dL_law_1005 : decode cL_law 1005 = .ok (.if_icmp .eq 5, 3) := by decide +kernel
theorem dL_law_1008 : decode cL_law 1008 = .ok (.iconst 0, 1) := by decide +kernel
theorem dL_law_1009 : decode cL_law 1009 = .ok (.ireturn, 1) := by decide +kernel
theorem dL_law_1010 : decode cL_law 1010 = .ok (.iload 5, 2) := by decide +kernel
theorem dL_law_1012 : decode cL_law 1012 = .ok (.ifCond .ne 15, 3) := by decide +kernel
theorem dL_law_1015 : decode cL_law 1015 = .ok (.aload_n 3, 1) := by decide +kernel
theorem dL_law_1016 : decode cL_law 1016 = .ok (.iconst 0, 1) := by decide +kernel
theorem dL_law_1017 : decode cL_law 1017 = .ok (.laload, 1) := by decide +kernel
theorem dL_law_1018 : decode cL_law 1018 = .ok (.iload 6, 2) := by decide +kernel
theorem dL_law_1020 : decode cL_law 1020 = .ok (.i2l, 1) := by decide +kernel
theorem dL_law_1021 : decode cL_law 1021 = .ok (.lcmp, 1) := by decide +kernel
theorem dL_law_1022 : decode cL_law 1022 = .ok (.ifCond .eq 5, 3) := by decide +kernel
theorem dL_law_1025 : decode cL_law 1025 = .ok (.iconst 0, 1) := by decide +kernel
theorem dL_law_1026 : decode cL_law 1026 = .ok (.ireturn, 1) := by decide +kernel
theorem dL_law_1027 : decode cL_law 1027 = .ok (.goto 591, 3) := by decide +kernel
theorem dL_law_1030 : decode cL_law 1030 = .ok (.aload_n 1, 1) := by decide +kernel
theorem dL_law_1031 : decode cL_law 1031 = .ok (.aload_n 0, 1) := by decide +kernel
theorem dL_law_1032 : decode cL_law 1032 = .ok (.iload 4, 2) := by decide +kernel
theorem dL_law_1034 : decode cL_law 1034 = .ok (.iconst 1, 1) := by decide +kernel
theorem dL_law_1035 : decode cL_law 1035 = .ok (.iadd, 1) := by decide +kernel
theorem dL_law_1036 : decode cL_law 1036 = .ok (.iaload, 1) := by decide +kernel
theorem dL_law_1037 : decode cL_law 1037 = .ok (.aload_n 0, 1) := by decide +kernel
theorem dL_law_1038 : decode cL_law 1038 = .ok (.iload 4, 2) := by decide +kernel
theorem dL_law_1040 : decode cL_law 1040 = .ok (.iconst 2, 1) := by decide +kernel
theorem dL_law_1041 : decode cL_law 1041 = .ok (.iadd, 1) := by decide +kernel
theorem dL_law_1042 : decode cL_law 1042 = .ok (.iaload, 1) := by decide +kernel
theorem dL_law_1043 : decode cL_law 1043 = .ok (.aload_n 3, 1) := by decide +kernel
theorem dL_law_1044 : decode cL_law 1044 = .ok (.invokestatic 142, 3) := by decide +kernel
theorem dL_law_1047 : decode cL_law 1047 = .ok (.istore 5, 2) := by decide +kernel
theorem dL_law_1049 : decode cL_law 1049 = .ok (.aload_n 2, 1) := by decide +kernel
theorem dL_law_1050 : decode cL_law 1050 = .ok (.aload_n 0, 1) := by decide +kernel
theorem dL_law_1051 : decode cL_law 1051 = .ok (.iload 4, 2) := by decide +kernel
theorem dL_law_1053 : decode cL_law 1053 = .ok (.iconst 1, 1) := by decide +kernel
theorem dL_law_1054 : decode cL_law 1054 = .ok (.iadd, 1) := by decide +kernel
theorem dL_law_1055 : decode cL_law 1055 = .ok (.iaload, 1) := by decide +kernel
theorem dL_law_1056 : decode cL_law 1056 = .ok (.aload_n 0, 1) := by decide +kernel
theorem dL_law_1057 : decode cL_law 1057 = .ok (.iload 4, 2) := by decide +kernel
theorem dL_law_1059 : decode cL_law 1059 = .ok (.iconst 2, 1) := by decide +kernel
theorem dL_law_1060 : decode cL_law 1060 = .ok (.iadd, 1) := by decide +kernel
theorem dL_law_1061 : decode cL_law 1061 = .ok (.iaload, 1) := by decide +kernel
theorem dL_law_1062 : decode cL_law 1062 = .ok (.invokevirtual 144, 3) := by decide +kernel
theorem dL_law_1065 : decode cL_law 1065 = .ok (.istore 6, 2) := by decide +kernel
theorem dL_law_1067 : decode cL_law 1067 = .ok (.aload_n 2, 1) := by decide +kernel
theorem dL_law_1068 : decode cL_law 1068 = .ok (.invokevirtual 92, 3) := by decide +kernel
theorem dL_law_1071 : decode cL_law 1071 = .ok (.iload 5, 2) := by decide +kernel
theorem dL_law_1073 : decode cL_law 1073 = .ok (.if_icmp .eq 5, 3) := by decide +kernel
theorem dL_law_1076 : decode cL_law 1076 = .ok (.iconst 0, 1) := by decide +kernel
theorem dL_law_1077 : decode cL_law 1077 = .ok (.ireturn, 1) := by decide +kernel
theorem dL_law_1078 : decode cL_law 1078 = .ok (.iload 5, 2) := by decide +kernel
theorem dL_law_1080 : decode cL_law 1080 = .ok (.ifCond .ne 15, 3) := by decide +kernel
theorem dL_law_1083 : decode cL_law 1083 = .ok (.aload_n 3, 1) := by decide +kernel
theorem dL_law_1084 : decode cL_law 1084 = .ok (.iconst 0, 1) := by decide +kernel
theorem dL_law_1085 : decode cL_law 1085 = .ok (.laload, 1) := by decide +kernel
theorem dL_law_1086 : decode cL_law 1086 = .ok (.iload 6, 2) := by decide +kernel
theorem dL_law_1088 : decode cL_law 1088 = .ok (.i2l, 1) := by decide +kernel
theorem dL_law_1089 : decode cL_law 1089 = .ok (.lcmp, 1) := by decide +kernel
theorem dL_law_1090 : decode cL_law 1090 = .ok (.ifCond .eq 5, 3) := by decide +kernel
theorem dL_law_1093 : decode cL_law 1093 = .ok (.iconst 0, 1) := by decide +kernel
theorem dL_law_1094 : decode cL_law 1094 = .ok (.ireturn, 1) := by decide +kernel
theorem dL_law_1095 : decode cL_law 1095 = .ok (.goto 523, 3) := by decide +kernel
theorem dL_law_1098 : decode cL_law 1098 = .ok (.aload_n 1, 1) := by decide +kernel
theorem dL_law_1099 : decode cL_law 1099 = .ok (.aload_n 0, 1) := by decide +kernel
theorem dL_law_1100 : decode cL_law 1100 = .ok (.iload 4, 2) := by decide +kernel
theorem dL_law_1102 : decode cL_law 1102 = .ok (.iconst 1, 1) := by decide +kernel
theorem dL_law_1103 : decode cL_law 1103 = .ok (.iadd, 1) := by decide +kernel
theorem dL_law_1104 : decode cL_law 1104 = .ok (.iaload, 1) := by decide +kernel
theorem dL_law_1105 : decode cL_law 1105 = .ok (.aload_n 0, 1) := by decide +kernel
theorem dL_law_1106 : decode cL_law 1106 = .ok (.iload 4, 2) := by decide +kernel
theorem dL_law_1108 : decode cL_law 1108 = .ok (.iconst 2, 1) := by decide +kernel
theorem dL_law_1109 : decode cL_law 1109 = .ok (.iadd, 1) := by decide +kernel
theorem dL_law_1110 : decode cL_law 1110 = .ok (.iaload, 1) := by decide +kernel
theorem dL_law_1111 : decode cL_law 1111 = .ok (.aload_n 3, 1) := by decide +kernel
theorem dL_law_1112 : decode cL_law 1112 = .ok (.invokestatic 145, 3) := by decide +kernel
theorem dL_law_1115 : decode cL_law 1115 = .ok (.istore 5, 2) := by decide +kernel
theorem dL_law_1117 : decode cL_law 1117 = .ok (.aload_n 2, 1) := by decide +kernel
theorem dL_law_1118 : decode cL_law 1118 = .ok (.aload_n 0, 1) := by decide +kernel
theorem dL_law_1119 : decode cL_law 1119 = .ok (.iload 4, 2) := by decide +kernel
theorem dL_law_1121 : decode cL_law 1121 = .ok (.iconst 1, 1) := by decide +kernel
theorem dL_law_1122 : decode cL_law 1122 = .ok (.iadd, 1) := by decide +kernel
theorem dL_law_1123 : decode cL_law 1123 = .ok (.iaload, 1) := by decide +kernel
theorem dL_law_1124 : decode cL_law 1124 = .ok (.aload_n 0, 1) := by decide +kernel
theorem dL_law_1125 : decode cL_law 1125 = .ok (.iload 4, 2) := by decide +kernel
theorem dL_law_1127 : decode cL_law 1127 = .ok (.iconst 2, 1) := by decide +kernel
theorem dL_law_1128 : decode cL_law 1128 = .ok (.iadd, 1) := by decide +kernel
theorem dL_law_1129 : decode cL_law 1129 = .ok (.iaload, 1) := by decide +kernel
theorem dL_law_1130 : decode cL_law 1130 = .ok (.invokevirtual 147, 3) := by decide +kernel
theorem dL_law_1133 : decode cL_law 1133 = .ok (.istore 6, 2) := by decide +kernel
theorem dL_law_1135 : decode cL_law 1135 = .ok (.aload_n 2, 1) := by decide +kernel
theorem dL_law_1136 : decode cL_law 1136 = .ok (.invokevirtual 92, 3) := by decide +kernel
theorem dL_law_1139 : decode cL_law 1139 = .ok (.iload 5, 2) := by decide +kernel
theorem dL_law_1141 : decode cL_law 1141 = .ok (.if_icmp .eq 5, 3) := by decide +kernel
theorem dL_law_1144 : decode cL_law 1144 = .ok (.iconst 0, 1) := by decide +kernel
theorem dL_law_1145 : decode cL_law 1145 = .ok (.ireturn, 1) := by decide +kernel
theorem dL_law_1146 : decode cL_law 1146 = .ok (.iload 5, 2) := by decide +kernel
theorem dL_law_1148 : decode cL_law 1148 = .ok (.ifCond .ne 15, 3) := by decide +kernel
theorem dL_law_1151 : decode cL_law 1151 = .ok (.aload_n 3, 1) := by decide +kernel
theorem dL_law_1152 : decode cL_law 1152 = .ok (.iconst 0, 1) := by decide +kernel
theorem dL_law_1153 : decode cL_law 1153 = .ok (.laload, 1) := by decide +kernel
theorem dL_law_1154 : decode cL_law 1154 = .ok (.iload 6, 2) := by decide +kernel
theorem dL_law_1156 : decode cL_law 1156 = .ok (.i2l, 1) := by decide +kernel
theorem dL_law_1157 : decode cL_law 1157 = .ok (.lcmp, 1) := by decide +kernel
theorem dL_law_1158 : decode cL_law 1158 = .ok (.ifCond .eq 5, 3) := by decide +kernel
theorem dL_law_1161 : decode cL_law 1161 = .ok (.iconst 0, 1) := by decide +kernel
theorem dL_law_1162 : decode cL_law 1162 = .ok (.ireturn, 1) := by decide +kernel
theorem dL_law_1163 : decode cL_law 1163 = .ok (.goto 455, 3) := by decide +kernel
theorem dL_law_1166 : decode cL_law 1166 = .ok (.aload_n 1, 1) := by decide +kernel
theorem dL_law_1167 : decode cL_law 1167 = .ok (.aload_n 0, 1) := by decide +kernel
theorem dL_law_1168 : decode cL_law 1168 = .ok (.iload 4, 2) := by decide +kernel
theorem dL_law_1170 : decode cL_law 1170 = .ok (.iconst 1, 1) := by decide +kernel
theorem dL_law_1171 : decode cL_law 1171 = .ok (.iadd, 1) := by decide +kernel
theorem dL_law_1172 : decode cL_law 1172 = .ok (.iaload, 1) := by decide +kernel
theorem dL_law_1173 : decode cL_law 1173 = .ok (.aload_n 0, 1) := by decide +kernel
theorem dL_law_1174 : decode cL_law 1174 = .ok (.iload 4, 2) := by decide +kernel
theorem dL_law_1176 : decode cL_law 1176 = .ok (.iconst 2, 1) := by decide +kernel
theorem dL_law_1177 : decode cL_law 1177 = .ok (.iadd, 1) := by decide +kernel
theorem dL_law_1178 : decode cL_law 1178 = .ok (.iaload, 1) := by decide +kernel
theorem dL_law_1179 : decode cL_law 1179 = .ok (.aload_n 3, 1) := by decide +kernel
theorem dL_law_1180 : decode cL_law 1180 = .ok (.invokestatic 148, 3) := by decide +kernel
theorem dL_law_1183 : decode cL_law 1183 = .ok (.istore 5, 2) := by decide +kernel
theorem dL_law_1185 : decode cL_law 1185 = .ok (.aload_n 2, 1) := by decide +kernel
theorem dL_law_1186 : decode cL_law 1186 = .ok (.aload_n 0, 1) := by decide +kernel
theorem dL_law_1187 : decode cL_law 1187 = .ok (.iload 4, 2) := by decide +kernel
theorem dL_law_1189 : decode cL_law 1189 = .ok (.iconst 1, 1) := by decide +kernel
theorem dL_law_1190 : decode cL_law 1190 = .ok (.iadd, 1) := by decide +kernel
theorem dL_law_1191 : decode cL_law 1191 = .ok (.iaload, 1) := by decide +kernel
theorem dL_law_1192 : decode cL_law 1192 = .ok (.aload_n 0, 1) := by decide +kernel
theorem dL_law_1193 : decode cL_law 1193 = .ok (.iload 4, 2) := by decide +kernel
theorem dL_law_1195 : decode cL_law 1195 = .ok (.iconst 2, 1) := by decide +kernel
theorem dL_law_1196 : decode cL_law 1196 = .ok (.iadd, 1) := by decide +kernel
theorem dL_law_1197 : decode cL_law 1197 = .ok (.iaload, 1) := by decide +kernel
theorem dL_law_1198 : decode cL_law 1198 = .ok (.invokevirtual 150, 3) := by decide +kernel
theorem dL_law_1201 : decode cL_law 1201 = .ok (.istore 6, 2) := by decide +kernel
theorem dL_law_1203 : decode cL_law 1203 = .ok (.aload_n 2, 1) := by decide +kernel
theorem dL_law_1204 : decode cL_law 1204 = .ok (.invokevirtual 92, 3) := by decide +kernel
theorem dL_law_1207 : decode cL_law 1207 = .ok (.iload 5, 2) := by decide +kernel
theorem dL_law_1209 : decode cL_law 1209 = .ok (.if_icmp .eq 5, 3) := by decide +kernel
theorem dL_law_1212 : decode cL_law 1212 = .ok (.iconst 0, 1) := by decide +kernel
theorem dL_law_1213 : decode cL_law 1213 = .ok (.ireturn, 1) := by decide +kernel
theorem dL_law_1214 : decode cL_law 1214 = .ok (.iload 5, 2) := by decide +kernel
theorem dL_law_1216 : decode cL_law 1216 = .ok (.ifCond .ne 15, 3) := by decide +kernel
theorem dL_law_1219 : decode cL_law 1219 = .ok (.aload_n 3, 1) := by decide +kernel
theorem dL_law_1220 : decode cL_law 1220 = .ok (.iconst 0, 1) := by decide +kernel
theorem dL_law_1221 : decode cL_law 1221 = .ok (.laload, 1) := by decide +kernel
theorem dL_law_1222 : decode cL_law 1222 = .ok (.iload 6, 2) := by decide +kernel
theorem dL_law_1224 : decode cL_law 1224 = .ok (.i2l, 1) := by decide +kernel
theorem dL_law_1225 : decode cL_law 1225 = .ok (.lcmp, 1) := by decide +kernel
theorem dL_law_1226 : decode cL_law 1226 = .ok (.ifCond .eq 5, 3) := by decide +kernel
theorem dL_law_1229 : decode cL_law 1229 = .ok (.iconst 0, 1) := by decide +kernel
theorem dL_law_1230 : decode cL_law 1230 = .ok (.ireturn, 1) := by decide +kernel
theorem dL_law_1231 : decode cL_law 1231 = .ok (.goto 387, 3) := by decide +kernel
theorem dL_law_1234 : decode cL_law 1234 = .ok (.aload_n 1, 1) := by decide +kernel
theorem dL_law_1235 : decode cL_law 1235 = .ok (.aload_n 0, 1) := by decide +kernel
theorem dL_law_1236 : decode cL_law 1236 = .ok (.iload 4, 2) := by decide +kernel
theorem dL_law_1238 : decode cL_law 1238 = .ok (.iconst 1, 1) := by decide +kernel
theorem dL_law_1239 : decode cL_law 1239 = .ok (.iadd, 1) := by decide +kernel
theorem dL_law_1240 : decode cL_law 1240 = .ok (.iaload, 1) := by decide +kernel
theorem dL_law_1241 : decode cL_law 1241 = .ok (.aload_n 3, 1) := by decide +kernel
theorem dL_law_1242 : decode cL_law 1242 = .ok (.invokestatic 151, 3) := by decide +kernel
theorem dL_law_1245 : decode cL_law 1245 = .ok (.istore 5, 2) := by decide +kernel
theorem dL_law_1247 : decode cL_law 1247 = .ok (.aload_n 2, 1) := by decide +kernel
theorem dL_law_1248 : decode cL_law 1248 = .ok (.aload_n 0, 1) := by decide +kernel
theorem dL_law_1249 : decode cL_law 1249 = .ok (.iload 4, 2) := by decide +kernel
theorem dL_law_1251 : decode cL_law 1251 = .ok (.iconst 1, 1) := by decide +kernel
theorem dL_law_1252 : decode cL_law 1252 = .ok (.iadd, 1) := by decide +kernel
theorem dL_law_1253 : decode cL_law 1253 = .ok (.iaload, 1) := by decide +kernel
theorem dL_law_1254 : decode cL_law 1254 = .ok (.invokevirtual 153, 3) := by decide +kernel
theorem dL_law_1257 : decode cL_law 1257 = .ok (.istore 6, 2) := by decide +kernel
theorem dL_law_1259 : decode cL_law 1259 = .ok (.aload_n 2, 1) := by decide +kernel
theorem dL_law_1260 : decode cL_law 1260 = .ok (.invokevirtual 92, 3) := by decide +kernel
theorem dL_law_1263 : decode cL_law 1263 = .ok (.iload 5, 2) := by decide +kernel
theorem dL_law_1265 : decode cL_law 1265 = .ok (.if_icmp .eq 5, 3) := by decide +kernel
theorem dL_law_1268 : decode cL_law 1268 = .ok (.iconst 0, 1) := by decide +kernel
theorem dL_law_1269 : decode cL_law 1269 = .ok (.ireturn, 1) := by decide +kernel
theorem dL_law_1270 : decode cL_law 1270 = .ok (.iload 5, 2) := by decide +kernel
theorem dL_law_1272 : decode cL_law 1272 = .ok (.ifCond .ne 15, 3) := by decide +kernel
theorem dL_law_1275 : decode cL_law 1275 = .ok (.aload_n 3, 1) := by decide +kernel
theorem dL_law_1276 : decode cL_law 1276 = .ok (.iconst 0, 1) := by decide +kernel
theorem dL_law_1277 : decode cL_law 1277 = .ok (.laload, 1) := by decide +kernel
theorem dL_law_1278 : decode cL_law 1278 = .ok (.iload 6, 2) := by decide +kernel
theorem dL_law_1280 : decode cL_law 1280 = .ok (.i2l, 1) := by decide +kernel
theorem dL_law_1281 : decode cL_law 1281 = .ok (.lcmp, 1) := by decide +kernel
theorem dL_law_1282 : decode cL_law 1282 = .ok (.ifCond .eq 5, 3) := by decide +kernel
theorem dL_law_1285 : decode cL_law 1285 = .ok (.iconst 0, 1) := by decide +kernel
theorem dL_law_1286 : decode cL_law 1286 = .ok (.ireturn, 1) := by decide +kernel
theorem dL_law_1287 : decode cL_law 1287 = .ok (.goto 331, 3) := by decide +kernel
theorem dL_law_1290 : decode cL_law 1290 = .ok (.aload_n 1, 1) := by decide +kernel
theorem dL_law_1291 : decode cL_law 1291 = .ok (.aload_n 0, 1) := by decide +kernel
theorem dL_law_1292 : decode cL_law 1292 = .ok (.iload 4, 2) := by decide +kernel
theorem dL_law_1294 : decode cL_law 1294 = .ok (.iconst 1, 1) := by decide +kernel
theorem dL_law_1295 : decode cL_law 1295 = .ok (.iadd, 1) := by decide +kernel
theorem dL_law_1296 : decode cL_law 1296 = .ok (.iaload, 1) := by decide +kernel
theorem dL_law_1297 : decode cL_law 1297 = .ok (.aload_n 3, 1) := by decide +kernel
theorem dL_law_1298 : decode cL_law 1298 = .ok (.invokestatic 154, 3) := by decide +kernel
theorem dL_law_1301 : decode cL_law 1301 = .ok (.istore 5, 2) := by decide +kernel
theorem dL_law_1303 : decode cL_law 1303 = .ok (.aload_n 2, 1) := by decide +kernel
theorem dL_law_1304 : decode cL_law 1304 = .ok (.aload_n 0, 1) := by decide +kernel
theorem dL_law_1305 : decode cL_law 1305 = .ok (.iload 4, 2) := by decide +kernel
theorem dL_law_1307 : decode cL_law 1307 = .ok (.iconst 1, 1) := by decide +kernel
theorem dL_law_1308 : decode cL_law 1308 = .ok (.iadd, 1) := by decide +kernel
theorem dL_law_1309 : decode cL_law 1309 = .ok (.iaload, 1) := by decide +kernel
theorem dL_law_1310 : decode cL_law 1310 = .ok (.invokevirtual 156, 3) := by decide +kernel
theorem dL_law_1313 : decode cL_law 1313 = .ok (.istore 6, 2) := by decide +kernel
theorem dL_law_1315 : decode cL_law 1315 = .ok (.aload_n 2, 1) := by decide +kernel
theorem dL_law_1316 : decode cL_law 1316 = .ok (.invokevirtual 92, 3) := by decide +kernel
theorem dL_law_1319 : decode cL_law 1319 = .ok (.iload 5, 2) := by decide +kernel
theorem dL_law_1321 : decode cL_law 1321 = .ok (.if_icmp .eq 5, 3) := by decide +kernel
theorem dL_law_1324 : decode cL_law 1324 = .ok (.iconst 0, 1) := by decide +kernel
theorem dL_law_1325 : decode cL_law 1325 = .ok (.ireturn, 1) := by decide +kernel
theorem dL_law_1326 : decode cL_law 1326 = .ok (.iload 5, 2) := by decide +kernel
theorem dL_law_1328 : decode cL_law 1328 = .ok (.ifCond .ne 15, 3) := by decide +kernel
theorem dL_law_1331 : decode cL_law 1331 = .ok (.aload_n 3, 1) := by decide +kernel
theorem dL_law_1332 : decode cL_law 1332 = .ok (.iconst 0, 1) := by decide +kernel
theorem dL_law_1333 : decode cL_law 1333 = .ok (.laload, 1) := by decide +kernel
theorem dL_law_1334 : decode cL_law 1334 = .ok (.iload 6, 2) := by decide +kernel
theorem dL_law_1336 : decode cL_law 1336 = .ok (.i2l, 1) := by decide +kernel
theorem dL_law_1337 : decode cL_law 1337 = .ok (.lcmp, 1) := by decide +kernel
theorem dL_law_1338 : decode cL_law 1338 = .ok (.ifCond .eq 5, 3) := by decide +kernel
theorem dL_law_1341 : decode cL_law 1341 = .ok (.iconst 0, 1) := by decide +kernel
theorem dL_law_1342 : decode cL_law 1342 = .ok (.ireturn, 1) := by decide +kernel
theorem dL_law_1343 : decode cL_law 1343 = .ok (.goto 275, 3) := by decide +kernel
theorem dL_law_1346 : decode cL_law 1346 = .ok (.aload_n 1, 1) := by decide +kernel
theorem dL_law_1347 : decode cL_law 1347 = .ok (.aload_n 0, 1) := by decide +kernel
theorem dL_law_1348 : decode cL_law 1348 = .ok (.iload 4, 2) := by decide +kernel
theorem dL_law_1350 : decode cL_law 1350 = .ok (.iconst 1, 1) := by decide +kernel
theorem dL_law_1351 : decode cL_law 1351 = .ok (.iadd, 1) := by decide +kernel
theorem dL_law_1352 : decode cL_law 1352 = .ok (.iaload, 1) := by decide +kernel
theorem dL_law_1353 : decode cL_law 1353 = .ok (.aload_n 0, 1) := by decide +kernel
theorem dL_law_1354 : decode cL_law 1354 = .ok (.iload 4, 2) := by decide +kernel
theorem dL_law_1356 : decode cL_law 1356 = .ok (.iconst 2, 1) := by decide +kernel
theorem dL_law_1357 : decode cL_law 1357 = .ok (.iadd, 1) := by decide +kernel
theorem dL_law_1358 : decode cL_law 1358 = .ok (.iaload, 1) := by decide +kernel
theorem dL_law_1359 : decode cL_law 1359 = .ok (.aload_n 0, 1) := by decide +kernel
theorem dL_law_1360 : decode cL_law 1360 = .ok (.iload 4, 2) := by decide +kernel
theorem dL_law_1362 : decode cL_law 1362 = .ok (.iconst 3, 1) := by decide +kernel
theorem dL_law_1363 : decode cL_law 1363 = .ok (.iadd, 1) := by decide +kernel
theorem dL_law_1364 : decode cL_law 1364 = .ok (.iaload, 1) := by decide +kernel
theorem dL_law_1365 : decode cL_law 1365 = .ok (.aload_n 3, 1) := by decide +kernel
theorem dL_law_1366 : decode cL_law 1366 = .ok (.invokestatic 157, 3) := by decide +kernel
theorem dL_law_1369 : decode cL_law 1369 = .ok (.istore 5, 2) := by decide +kernel
theorem dL_law_1371 : decode cL_law 1371 = .ok (.aload_n 2, 1) := by decide +kernel
theorem dL_law_1372 : decode cL_law 1372 = .ok (.aload_n 0, 1) := by decide +kernel
theorem dL_law_1373 : decode cL_law 1373 = .ok (.iload 4, 2) := by decide +kernel
theorem dL_law_1375 : decode cL_law 1375 = .ok (.iconst 1, 1) := by decide +kernel
theorem dL_law_1376 : decode cL_law 1376 = .ok (.iadd, 1) := by decide +kernel
theorem dL_law_1377 : decode cL_law 1377 = .ok (.iaload, 1) := by decide +kernel
theorem dL_law_1378 : decode cL_law 1378 = .ok (.aload_n 0, 1) := by decide +kernel
theorem dL_law_1379 : decode cL_law 1379 = .ok (.iload 4, 2) := by decide +kernel
theorem dL_law_1381 : decode cL_law 1381 = .ok (.iconst 2, 1) := by decide +kernel
theorem dL_law_1382 : decode cL_law 1382 = .ok (.iadd, 1) := by decide +kernel
theorem dL_law_1383 : decode cL_law 1383 = .ok (.iaload, 1) := by decide +kernel
theorem dL_law_1384 : decode cL_law 1384 = .ok (.aload_n 0, 1) := by decide +kernel
theorem dL_law_1385 : decode cL_law 1385 = .ok (.iload 4, 2) := by decide +kernel
theorem dL_law_1387 : decode cL_law 1387 = .ok (.iconst 3, 1) := by decide +kernel
theorem dL_law_1388 : decode cL_law 1388 = .ok (.iadd, 1) := by decide +kernel
theorem dL_law_1389 : decode cL_law 1389 = .ok (.iaload, 1) := by decide +kernel
theorem dL_law_1390 : decode cL_law 1390 = .ok (.invokevirtual 159, 3) := by decide +kernel
theorem dL_law_1393 : decode cL_law 1393 = .ok (.istore 6, 2) := by decide +kernel
theorem dL_law_1395 : decode cL_law 1395 = .ok (.aload_n 2, 1) := by decide +kernel
theorem dL_law_1396 : decode cL_law 1396 = .ok (.invokevirtual 92, 3) := by decide +kernel
theorem dL_law_1399 : decode cL_law 1399 = .ok (.iload 5, 2) := by decide +kernel
theorem dL_law_1401 : decode cL_law 1401 = .ok (.if_icmp .eq 5, 3) := by decide +kernel
theorem dL_law_1404 : decode cL_law 1404 = .ok (.iconst 0, 1) := by decide +kernel
theorem dL_law_1405 : decode cL_law 1405 = .ok (.ireturn, 1) := by decide +kernel
theorem dL_law_1406 : decode cL_law 1406 = .ok (.iload 5, 2) := by decide +kernel
theorem dL_law_1408 : decode cL_law 1408 = .ok (.ifCond .ne 15, 3) := by decide +kernel
theorem dL_law_1411 : decode cL_law 1411 = .ok (.aload_n 3, 1) := by decide +kernel
theorem dL_law_1412 : decode cL_law 1412 = .ok (.iconst 0, 1) := by decide +kernel
theorem dL_law_1413 : decode cL_law 1413 = .ok (.laload, 1) := by decide +kernel
theorem dL_law_1414 : decode cL_law 1414 = .ok (.iload 6, 2) := by decide +kernel
theorem dL_law_1416 : decode cL_law 1416 = .ok (.i2l, 1) := by decide +kernel
theorem dL_law_1417 : decode cL_law 1417 = .ok (.lcmp, 1) := by decide +kernel
theorem dL_law_1418 : decode cL_law 1418 = .ok (.ifCond .eq 5, 3) := by decide +kernel
theorem dL_law_1421 : decode cL_law 1421 = .ok (.iconst 0, 1) := by decide +kernel
theorem dL_law_1422 : decode cL_law 1422 = .ok (.ireturn, 1) := by decide +kernel
theorem dL_law_1423 : decode cL_law 1423 = .ok (.goto 195, 3) := by decide +kernel
theorem dL_law_1426 : decode cL_law 1426 = .ok (.aload_n 1, 1) := by decide +kernel
theorem dL_law_1427 : decode cL_law 1427 = .ok (.aload_n 0, 1) := by decide +kernel
theorem dL_law_1428 : decode cL_law 1428 = .ok (.iload 4, 2) := by decide +kernel
theorem dL_law_1430 : decode cL_law 1430 = .ok (.iconst 1, 1) := by decide +kernel
theorem dL_law_1431 : decode cL_law 1431 = .ok (.iadd, 1) := by decide +kernel
theorem dL_law_1432 : decode cL_law 1432 = .ok (.iaload, 1) := by decide +kernel
theorem dL_law_1433 : decode cL_law 1433 = .ok (.aload_n 3, 1) := by decide +kernel
theorem dL_law_1434 : decode cL_law 1434 = .ok (.invokestatic 160, 3) := by decide +kernel
theorem dL_law_1437 : decode cL_law 1437 = .ok (.istore 5, 2) := by decide +kernel
theorem dL_law_1439 : decode cL_law 1439 = .ok (.aload_n 2, 1) := by decide +kernel
theorem dL_law_1440 : decode cL_law 1440 = .ok (.aload_n 0, 1) := by decide +kernel
theorem dL_law_1441 : decode cL_law 1441 = .ok (.iload 4, 2) := by decide +kernel
theorem dL_law_1443 : decode cL_law 1443 = .ok (.iconst 1, 1) := by decide +kernel
theorem dL_law_1444 : decode cL_law 1444 = .ok (.iadd, 1) := by decide +kernel
theorem dL_law_1445 : decode cL_law 1445 = .ok (.iaload, 1) := by decide +kernel
theorem dL_law_1446 : decode cL_law 1446 = .ok (.invokevirtual 162, 3) := by decide +kernel
theorem dL_law_1449 : decode cL_law 1449 = .ok (.istore 6, 2) := by decide +kernel
theorem dL_law_1451 : decode cL_law 1451 = .ok (.aload_n 2, 1) := by decide +kernel
theorem dL_law_1452 : decode cL_law 1452 = .ok (.invokevirtual 92, 3) := by decide +kernel
theorem dL_law_1455 : decode cL_law 1455 = .ok (.iload 5, 2) := by decide +kernel
theorem dL_law_1457 : decode cL_law 1457 = .ok (.if_icmp .eq 5, 3) := by decide +kernel
theorem dL_law_1460 : decode cL_law 1460 = .ok (.iconst 0, 1) := by decide +kernel
theorem dL_law_1461 : decode cL_law 1461 = .ok (.ireturn, 1) := by decide +kernel
theorem dL_law_1462 : decode cL_law 1462 = .ok (.iload 5, 2) := by decide +kernel
theorem dL_law_1464 : decode cL_law 1464 = .ok (.ifCond .ne 15, 3) := by decide +kernel
theorem dL_law_1467 : decode cL_law 1467 = .ok (.aload_n 3, 1) := by decide +kernel
theorem dL_law_1468 : decode cL_law 1468 = .ok (.iconst 0, 1) := by decide +kernel
theorem dL_law_1469 : decode cL_law 1469 = .ok (.laload, 1) := by decide +kernel
theorem dL_law_1470 : decode cL_law 1470 = .ok (.iload 6, 2) := by decide +kernel
theorem dL_law_1472 : decode cL_law 1472 = .ok (.i2l, 1) := by decide +kernel
theorem dL_law_1473 : decode cL_law 1473 = .ok (.lcmp, 1) := by decide +kernel
theorem dL_law_1474 : decode cL_law 1474 = .ok (.ifCond .eq 5, 3) := by decide +kernel
theorem dL_law_1477 : decode cL_law 1477 = .ok (.iconst 0, 1) := by decide +kernel
theorem dL_law_1478 : decode cL_law 1478 = .ok (.ireturn, 1) := by decide +kernel
theorem dL_law_1479 : decode cL_law 1479 = .ok (.goto 139, 3) := by decide +kernel
theorem dL_law_1482 : decode cL_law 1482 = .ok (.aload_n 1, 1) := by decide +kernel
theorem dL_law_1483 : decode cL_law 1483 = .ok (.invokevirtual 163, 3) := by decide +kernel
theorem dL_law_1486 : decode cL_law 1486 = .ok (.aload_n 2, 1) := by decide +kernel
theorem dL_law_1487 : decode cL_law 1487 = .ok (.invokevirtual 166, 3) := by decide +kernel
theorem dL_law_1490 : decode cL_law 1490 = .ok (.if_icmp .eq 128, 3) := by decide +kernel
theorem dL_law_1493 : decode cL_law 1493 = .ok (.iconst 0, 1) := by decide +kernel
theorem dL_law_1494 : decode cL_law 1494 = .ok (.ireturn, 1) := by decide +kernel
theorem dL_law_1495 : decode cL_law 1495 = .ok (.aload_n 1, 1) := by decide +kernel
theorem dL_law_1496 : decode cL_law 1496 = .ok (.aload_n 0, 1) := by decide +kernel
theorem dL_law_1497 : decode cL_law 1497 = .ok (.iload 4, 2) := by decide +kernel
theorem dL_law_1499 : decode cL_law 1499 = .ok (.iconst 1, 1) := by decide +kernel
theorem dL_law_1500 : decode cL_law 1500 = .ok (.iadd, 1) := by decide +kernel
theorem dL_law_1501 : decode cL_law 1501 = .ok (.iaload, 1) := by decide +kernel
theorem dL_law_1502 : decode cL_law 1502 = .ok (.aload_n 0, 1) := by decide +kernel
theorem dL_law_1503 : decode cL_law 1503 = .ok (.iload 4, 2) := by decide +kernel
theorem dL_law_1505 : decode cL_law 1505 = .ok (.iconst 2, 1) := by decide +kernel
theorem dL_law_1506 : decode cL_law 1506 = .ok (.iadd, 1) := by decide +kernel
theorem dL_law_1507 : decode cL_law 1507 = .ok (.iaload, 1) := by decide +kernel
theorem dL_law_1508 : decode cL_law 1508 = .ok (.aload_n 3, 1) := by decide +kernel
theorem dL_law_1509 : decode cL_law 1509 = .ok (.invokestatic 167, 3) := by decide +kernel
theorem dL_law_1512 : decode cL_law 1512 = .ok (.istore 5, 2) := by decide +kernel
theorem dL_law_1514 : decode cL_law 1514 = .ok (.aload_n 2, 1) := by decide +kernel
theorem dL_law_1515 : decode cL_law 1515 = .ok (.aload_n 0, 1) := by decide +kernel
theorem dL_law_1516 : decode cL_law 1516 = .ok (.iload 4, 2) := by decide +kernel
theorem dL_law_1518 : decode cL_law 1518 = .ok (.iconst 1, 1) := by decide +kernel
theorem dL_law_1519 : decode cL_law 1519 = .ok (.iadd, 1) := by decide +kernel
theorem dL_law_1520 : decode cL_law 1520 = .ok (.iaload, 1) := by decide +kernel
theorem dL_law_1521 : decode cL_law 1521 = .ok (.aload_n 0, 1) := by decide +kernel
theorem dL_law_1522 : decode cL_law 1522 = .ok (.iload 4, 2) := by decide +kernel
theorem dL_law_1524 : decode cL_law 1524 = .ok (.iconst 2, 1) := by decide +kernel
theorem dL_law_1525 : decode cL_law 1525 = .ok (.iadd, 1) := by decide +kernel
theorem dL_law_1526 : decode cL_law 1526 = .ok (.iaload, 1) := by decide +kernel
theorem dL_law_1527 : decode cL_law 1527 = .ok (.invokevirtual 169, 3) := by decide +kernel
theorem dL_law_1530 : decode cL_law 1530 = .ok (.istore 6, 2) := by decide +kernel
theorem dL_law_1532 : decode cL_law 1532 = .ok (.aload_n 2, 1) := by decide +kernel
theorem dL_law_1533 : decode cL_law 1533 = .ok (.invokevirtual 92, 3) := by decide +kernel
theorem dL_law_1536 : decode cL_law 1536 = .ok (.iload 5, 2) := by decide +kernel
theorem dL_law_1538 : decode cL_law 1538 = .ok (.if_icmp .eq 5, 3) := by decide +kernel
theorem dL_law_1541 : decode cL_law 1541 = .ok (.iconst 0, 1) := by decide +kernel
theorem dL_law_1542 : decode cL_law 1542 = .ok (.ireturn, 1) := by decide +kernel
theorem dL_law_1543 : decode cL_law 1543 = .ok (.iload 5, 2) := by decide +kernel
theorem dL_law_1545 : decode cL_law 1545 = .ok (.ifCond .ne 15, 3) := by decide +kernel
theorem dL_law_1548 : decode cL_law 1548 = .ok (.aload_n 3, 1) := by decide +kernel
theorem dL_law_1549 : decode cL_law 1549 = .ok (.iconst 0, 1) := by decide +kernel
theorem dL_law_1550 : decode cL_law 1550 = .ok (.laload, 1) := by decide +kernel
theorem dL_law_1551 : decode cL_law 1551 = .ok (.iload 6, 2) := by decide +kernel
theorem dL_law_1553 : decode cL_law 1553 = .ok (.i2l, 1) := by decide +kernel
theorem dL_law_1554 : decode cL_law 1554 = .ok (.lcmp, 1) := by decide +kernel
theorem dL_law_1555 : decode cL_law 1555 = .ok (.ifCond .eq 5, 3) := by decide +kernel
theorem dL_law_1558 : decode cL_law 1558 = .ok (.iconst 0, 1) := by decide +kernel
theorem dL_law_1559 : decode cL_law 1559 = .ok (.ireturn, 1) := by decide +kernel
theorem dL_law_1560 : decode cL_law 1560 = .ok (.goto 58, 3) := by decide +kernel
theorem dL_law_1563 : decode cL_law 1563 = .ok (.aload_n 1, 1) := by decide +kernel
theorem dL_law_1564 : decode cL_law 1564 = .ok (.invokevirtual 170, 3) := by decide +kernel
theorem dL_law_1567 : decode cL_law 1567 = .ok (.dstore 5, 2) := by decide +kernel
theorem dL_law_1569 : decode cL_law 1569 = .ok (.aload_n 2, 1) := by decide +kernel
theorem dL_law_1570 : decode cL_law 1570 = .ok (.invokevirtual 174, 3) := by decide +kernel
theorem dL_law_1573 : decode cL_law 1573 = .ok (.dstore 7, 2) := by decide +kernel
theorem dL_law_1575 : decode cL_law 1575 = .ok (.dload 5, 2) := by decide +kernel
theorem dL_law_1577 : decode cL_law 1577 = .ok (.dload 7, 2) := by decide +kernel
theorem dL_law_1579 : decode cL_law 1579 = .ok (.dcmp .l, 1) := by decide +kernel
theorem dL_law_1580 : decode cL_law 1580 = .ok (.ifCond .eq 21, 3) := by decide +kernel
theorem dL_law_1583 : decode cL_law 1583 = .ok (.dload 5, 2) := by decide +kernel
theorem dL_law_1585 : decode cL_law 1585 = .ok (.dload 5, 2) := by decide +kernel
theorem dL_law_1587 : decode cL_law 1587 = .ok (.dcmp .l, 1) := by decide +kernel
theorem dL_law_1588 : decode cL_law 1588 = .ok (.ifCond .eq 11, 3) := by decide +kernel
theorem dL_law_1591 : decode cL_law 1591 = .ok (.dload 7, 2) := by decide +kernel
theorem dL_law_1593 : decode cL_law 1593 = .ok (.dload 7, 2) := by decide +kernel
theorem dL_law_1595 : decode cL_law 1595 = .ok (.dcmp .l, 1) := by decide +kernel
theorem dL_law_1596 : decode cL_law 1596 = .ok (.ifCond .ne 5, 3) := by decide +kernel
theorem dL_law_1599 : decode cL_law 1599 = .ok (.iconst 0, 1) := by decide +kernel
theorem dL_law_1600 : decode cL_law 1600 = .ok (.ireturn, 1) := by decide +kernel
theorem dL_law_1601 : decode cL_law 1601 = .ok (.goto 17, 3) := by decide +kernel
theorem dL_law_1604 : decode cL_law 1604 = .ok (.aload_n 1, 1) := by decide +kernel
theorem dL_law_1605 : decode cL_law 1605 = .ok (.invokevirtual 175, 3) := by decide +kernel
theorem dL_law_1608 : decode cL_law 1608 = .ok (.aload_n 2, 1) := by decide +kernel
theorem dL_law_1609 : decode cL_law 1609 = .ok (.invokevirtual 179, 3) := by decide +kernel
theorem dL_law_1612 : decode cL_law 1612 = .ok (.lcmp, 1) := by decide +kernel
theorem dL_law_1613 : decode cL_law 1613 = .ok (.ifCond .eq 5, 3) := by decide +kernel
theorem dL_law_1616 : decode cL_law 1616 = .ok (.iconst 0, 1) := by decide +kernel
theorem dL_law_1617 : decode cL_law 1617 = .ok (.ireturn, 1) := by decide +kernel
theorem dL_law_1618 : decode cL_law 1618 = .ok (.iinc 4 4, 3) := by decide +kernel
theorem dL_law_1621 : decode cL_law 1621 = .ok (.goto (-1598), 3) := by decide +kernel
theorem dL_law_1624 : decode cL_law 1624 = .ok (.iconst 1, 1) := by decide +kernel
theorem dL_law_1625 : decode cL_law 1625 = .ok (.ireturn, 1) := by decide +kernel
end
section
/-! ===== the layer: one list of words for all methods; a world as a list of cells; a row a step ===== -/
def bw_L : List Cond := lw_tbl.filter goodWord
theorem bw_mem {w : Cond} (i : Nat) (h : lw_tbl[i]? = some w) (g : goodWord w = true) : w ∈ bw_L := List.mem_filter.mpr ⟨List.mem_of_getElem? h, g⟩
theorem bw_memT {w : Cond} (i : Nat) (h : tables_1[i]? = some w) (g : goodWord w = true) : w ∈ bw_L := List.mem_filter.mpr ⟨List.mem_append_right _ (List.mem_of_getElem? h), g⟩
abbrev bw_ws (y : MethodName) (cc : ByteArray) (n : Nat) (r : Option FieldType) : List Cond := Cond.code y cc n r :: bw_L
theorem bw_good {x : Cond} {y : MethodName} {cc : ByteArray} {n : Nat} {r : Option FieldType} (h : Cond.code y cc n r ∈ bw_L) : GoodIn (x :: bw_L) (bw_ws y cc n r) := by
  intro w hw
  rcases List.mem_cons.mp hw with rfl | hw
  · exact ⟨List.mem_cons_of_mem _ h, good_of_word (List.mem_filter.mp h).2⟩
  · exact ⟨List.mem_cons_of_mem _ hw, good_of_word (List.mem_filter.mp hw).2⟩
abbrev bw_rm (f loc : Nat) : Room := { frames := f, cells := 0, slots := 0, locals := loc }
/-- what a call needs to know of the callee by its name: its code's row, that its owner stands, how many arguments -/
def bw_Y (y : MethodName) (cc : ByteArray) (n : Nat) (r : Option FieldType) (k : Nat) : Prop :=
  Cond.code y cc n r ∈ bw_L ∧ Cond.initialized y.cls ∈ bw_L ∧ (y.cls ≠ "java/lang/invoke/MethodHandle" ∧ y.cls ≠ "java/lang/invoke/VarHandle") ∧ (parseMethodDescriptor y.desc).map (fun d => d.parameters.length) = some k
theorem bw_cb {R : Room} {s : State} {args : Array Value} {own : String} {index : Nat} {y : MethodName} {cc : ByteArray} {n : Nat} {r : Option FieldType} {k : Nat} {x : Cond} {rm : Room} {mc ms : Nat} (hts : ∀ w ∈ x :: bw_L, w.before args s = true) (hY : bw_Y y cc n r k) (hl : Cond.methodLink own index y ∈ bw_L) (hR : rm.frames + 1 ≤ R.frames ∧ 8 + (n + 11) + rm.locals ≤ R.locals) (hrc : rm.cells = mc) (hrs : rm.slots = ms) : CallB R s args own index y cc n r (bw_ws y cc n r) rm mc ms k := by
  obtain ⟨h1, h2, h3, h4⟩ := hY
  exact callB_of k hts (bw_good h1) rfl hrc hrs (hts _ (List.mem_cons_of_mem _ h2)) (hts _ (List.mem_cons_of_mem _ hl)) ⟨h3.1, h3.2, h4⟩ hR
theorem bw_cwV {R : Room} {s : State} {args : Array Value} {own C : String} {index : Nat} {y : MethodName} {cc : ByteArray} {n : Nat} {r : Option FieldType} {k : Nat} {x : Cond} {rm : Room} {mc ms : Nat} (hts : ∀ w ∈ x :: bw_L, w.before args s = true) (hY : bw_Y y cc n r k) (hV : Cond.instanceMethod y ∈ bw_L ∧ Cond.selects C y y ∈ bw_L) (hl : Cond.methodLink own index y ∈ bw_L) (hR : rm.frames + 1 ≤ R.frames ∧ 8 + (n + 11) + rm.locals ≤ R.locals) (hrc : rm.cells = mc) (hrs : rm.slots = ms) : CallW R s args own C index y cc n r (bw_ws y cc n r) rm mc ms k :=
  ⟨bw_cb hts hY hl hR hrc hrs, hts _ (List.mem_cons_of_mem _ hV.1), hts _ (List.mem_cons_of_mem _ hV.2)⟩
theorem bw_cwS {R : Room} {s : State} {args : Array Value} {own : String} {index : Nat} {y : MethodName} {cc : ByteArray} {n : Nat} {r : Option FieldType} {k : Nat} {x : Cond} {rm : Room} {mc ms : Nat} (hts : ∀ w ∈ x :: bw_L, w.before args s = true) (hY : bw_Y y cc n r k) (hV : Cond.static y ∈ bw_L) (hl : Cond.methodLink own index y ∈ bw_L) (hR : rm.frames + 1 ≤ R.frames ∧ 8 + (n + 11) + rm.locals ≤ R.locals) (hrc : rm.cells = mc) (hrs : rm.slots = ms) : CallB R s args own index y cc n r (bw_ws y cc n r) rm mc ms k ∧ (Cond.static y).before args s = true :=
  ⟨bw_cb hts hY hl hR hrc hrs, hts _ (List.mem_cons_of_mem _ hV)⟩
/-! worlds as sets of cells -/
theorem bw_P_iff {D : va_G} {cl : List vw_C} {ws : va_W} {H : Heap} : va_P D cl ws H ↔ ∀ q ∈ ws, va_at D cl q H := by
  constructor
  · intro h q hq
    obtain ⟨i, hi⟩ := List.getElem?_of_mem hq
    exact h i q hi
  · intro h k q hk
    exact h q (List.mem_of_getElem? hk)
theorem bw_D_iff {A : Nat → Prop} {ws : va_W} : va_D A ws ↔ (ws.map Prod.fst).Nodup ∧ ∀ q ∈ ws, A q.1 := by
  constructor
  · rintro ⟨h1, h2⟩
    refine ⟨?_, fun q hq => ?_⟩
    · rw [List.nodup_iff_pairwise_ne, List.pairwise_map, List.pairwise_iff_getElem]
      intro i j hi hj hij he
      have := h1 i j ws[i] ws[j] (List.getElem?_eq_getElem hi) (List.getElem?_eq_getElem hj) he
      omega
    · obtain ⟨i, hi⟩ := List.getElem?_of_mem hq
      exact h2 i q hi
  · rintro ⟨h1, h2⟩
    refine ⟨fun i j p q hi hj he => ?_, fun k q hk => h2 q (List.mem_of_getElem? hk)⟩
    rw [List.nodup_iff_pairwise_ne, List.pairwise_map, List.pairwise_iff_getElem] at h1
    obtain ⟨hil, rfl⟩ := List.getElem?_eq_some_iff.mp hi
    obtain ⟨hjl, rfl⟩ := List.getElem?_eq_some_iff.mp hj
    rcases Nat.lt_trichotomy i j with h | h | h
    · exact absurd he (h1 i j hil hjl h)
    · exact h
    · exact absurd he.symm (h1 j i hjl hil h)
theorem bw_A_iff {ws : va_W} {sz q : Nat} : va_A ws sz q ↔ q ∈ ws.map Prod.fst ∨ sz ≤ q := by
  unfold va_A
  constructor
  · rintro (⟨k, e, h⟩ | h)
    · exact Or.inl (List.mem_map.mpr ⟨(q, e), List.mem_of_getElem? h, rfl⟩)
    · exact Or.inr h
  · rintro (h | h)
    · obtain ⟨⟨a, e⟩, h1, rfl⟩ := List.mem_map.mp h
      obtain ⟨k, hk⟩ := List.getElem?_of_mem h1
      exact Or.inl ⟨k, e, hk⟩
    · exact Or.inr h
abbrev bw_tys (cy : Nat → ClassId) : List (ClassId × FieldType) := [(cy 0, .int), (cy 1, .long), (cy 2, .object "BufferLoans$Desk")]
/-- the world ws stands in H, apart; since H0 nothing outside A was written -/
def bw_I (G : va_G) (A : Nat → Prop) (H0 : Heap) (ws : va_W) (H : Heap) (locs : List Loc) : Prop := va_P G vwCl ws H ∧ va_D A ws ∧ va_S A H0 H locs ∧ ∀ q, H0.size ≤ q → A q
theorem bw_perm {G : va_G} {A : Nat → Prop} {H0 H : Heap} {ws ws' : va_W} {locs : List Loc} (h : bw_I G A H0 ws H locs) (hp : ws.Perm ws') : bw_I G A H0 ws' H locs := by
  obtain ⟨hP, hD, hS, hA⟩ := h
  refine ⟨bw_P_iff.mpr fun q hq => bw_P_iff.mp hP q (hp.mem_iff.mpr hq), bw_D_iff.mpr ⟨?_, fun q hq => (bw_D_iff.mp hD).2 q (hp.mem_iff.mpr hq)⟩, hS, hA⟩
  exact (hp.map Prod.fst).nodup_iff.mp (bw_D_iff.mp hD).1
/-- behind a call: the callee's cells come back, the rest is as it was -/
theorem bw_join {G : va_G} {A : Nat → Prop} {H0 H H1 : Heap} {ws wc rs w1 ws' : va_W} {locs locs1 : List Loc} (hI : bw_I G A H0 ws H locs) (he : ws.Perm (wc ++ rs)) (he' : (w1 ++ rs).Perm ws') (hf : w1.map Prod.fst = wc.map Prod.fst)
    (hk : ∀ q : Nat, q < H.size → ¬ va_A wc H.size q → H1[q]? = H[q]?) (hP1 : va_P G vwCl w1 H1) (hS1 : va_S A H0 H1 locs1) : bw_I G A H0 ws' H1 locs1 := by
  obtain ⟨hP, hD, -, hA⟩ := bw_perm hI he
  refine bw_perm ⟨?_, ?_, hS1, hA⟩ he'
  · rw [bw_P_iff]
    intro q hq
    rcases List.mem_append.mp hq with h | h
    · exact bw_P_iff.mp hP1 q h
    · have h2 := bw_P_iff.mp hP q (List.mem_append_right _ h)
      refine h2.kept (hk q.1 h2.lt ?_)
      rw [bw_A_iff]
      rintro (h3 | h3)
      · have hn := (bw_D_iff.mp hD).1
        rw [List.map_append, List.nodup_append] at hn
        exact hn.2.2 q.1 h3 q.1 (List.mem_map.mpr ⟨q, h, rfl⟩) rfl
      · have := h2.lt
        omega
  · rw [bw_D_iff]
    have hd := bw_D_iff.mp hD
    refine ⟨?_, fun q hq => ?_⟩
    · rw [List.map_append, hf, ← List.map_append]
      exact hd.1
    · rcases List.mem_append.mp hq with h | h
      · have : q.1 ∈ wc.map Prod.fst := by rw [← hf]; exact List.mem_map.mpr ⟨q, h, rfl⟩
        obtain ⟨q2, h3, h4⟩ := List.mem_map.mp this
        rw [← h4]
        exact hd.2 q2 (List.mem_append_left _ h3)
      · exact hd.2 q (List.mem_append_right _ h)
theorem bw_pS (ws : va_W) : ws.Perm (ws ++ []) := by rw [List.append_nil]
theorem bw_pS' (ws : va_W) : (ws ++ []).Perm ws := by rw [List.append_nil]
theorem bw_p0 (ws : va_W) : ws.Perm ([] ++ ws) := List.Perm.refl _
/-! Option: definedness -/
theorem bw_bind {α β : Type} {x : Option α} {f : α → Option β} {r : β} (h : x.bind f = some r) : ∃ a, x = some a ∧ f a = some r := Option.bind_eq_some_iff.mp h
theorem bw_none {α : Type} {r : α} {P : Prop} (h : (none : Option α) = some r) : P := by cases h
def bw_rd (n : Nat) (f : Nat → Int32) (i : Int32) : Option Int32 := if i < 0 ∨ n ≤ i.toNatClampNeg then none else some (f i.toNatClampNeg)
def bw_wr (n : Nat) (f : Nat → Int32) (i x : Int32) : Option (Nat → Int32) := if i < 0 ∨ n ≤ i.toNatClampNeg then none else some (upd f i.toNatClampNeg x)
theorem bw_rd_e {n : Nat} {f : Nat → Int32} {i v : Int32} (h : bw_rd n f i = some v) : vp_in i n ∧ f i.toNatClampNeg = v := by
  unfold bw_rd at h
  split at h
  · cases h
  · rename_i h2
    exact ⟨h2, Option.some.inj h⟩
theorem bw_wr_e {n : Nat} {f f' : Nat → Int32} {i x : Int32} (h : bw_wr n f i x = some f') : vp_in i n ∧ upd f i.toNatClampNeg x = f' := by
  unfold bw_wr at h
  split at h
  · cases h
  · rename_i h2
    exact ⟨h2, Option.some.inj h⟩
/-- a named value -/
def bw_let {α β : Type} (v : α) (f : α → β) : β := f v
theorem bw_let_e {α β : Type} {v x : α} {f : α → β} {r : β} (h : bw_let v f = r) (e : x = v) : f x = r := by subst e; exact h
/-- an answer of a method that is boolean: 0 or 1 -/
def bw_bool {α : Type} (v : Int32) (r : Option α) : Option α := if v = 0 ∨ v = 1 then r else none
theorem bw_bool_e {α : Type} {v : Int32} {r : Option α} {x : α} (h : bw_bool v r = some x) : narrow .boolean (.int v) = .int v ∧ r = some x := by
  unfold bw_bool at h
  split at h
  · rename_i h2
    refine ⟨?_, h⟩
    rcases h2 with rfl | rfl <;> rfl
  · cases h
/-- a double that is no NaN -/
def bw_num {α : Type} (v : UInt64) (r : Option α) : Option α := if v &&& 0x7fffffffffffffff ≤ 0x7ff0000000000000 then r else none
theorem bw_num_e {α : Type} {v : UInt64} {r : Option α} {x : α} (h : bw_num v r = some x) : vf_n64 v ∧ r = some x := by
  unfold bw_num at h
  split at h
  · rename_i h2
    exact ⟨h2, h⟩
  · cases h
/-- how far a loop may go: far above what any needs -/
def bw_fu : Nat := 5000
end
section
/-! ===== rows over bw_I ===== -/
/-- what a method's end says: the answer, the world, nothing else -/
def bw_Q (G : va_G) (rv : Option Value) (ws' : va_W) (A : Nat → Prop) : Array Value → State → Outcome → State → Prop := fun _ st oc t => oc = .returned rv ∧ va_P G vwCl ws' t.heap ∧ va_F A st t
def bw_B (G : va_G) (cy : Nat → ClassId) (ws : va_W) (sz : Nat) : State → Prop := fun U => U.heap.size = sz ∧ va_P G vwCl ws U.heap ∧ va_K G vwCl (bw_tys cy) U ∧ va_D (fun _ => True) ws
/-- the contract of a method that makes nothing and throws nothing: from the world ws with the arguments av it answers rv and leaves the world ws' -/
def bw_M (l : Launch) (y : MethodName) (cc : ByteArray) (n : Nat) (r : Option FieldType) (f loc : Nat) (G : va_G) (cy : Nat → ClassId) (av : List Value) (ws : va_W) (rv : Option Value) (ws' : va_W) : Prop :=
  ∀ sz : Nat, Met l y (bw_ws y cc n r) (bw_rm f loc) (va_Pc av (bw_B G cy ws sz)) (bw_Q G rv ws' (va_A ws sz)) 0 0 (va_A ws sz)
theorem bw_blind {G : va_G} {cy : Nat → ClassId} {av : List Value} {ws : va_W} {sz : Nat} : FrameBlind (va_Pc av (bw_B G cy ws sz)) := fun a U g mk q => by
  obtain ⟨q0, q1, qP, qK, qD⟩ := q
  exact ⟨q0, q1, qP, va_K.moved (u := U) (U := U.calling g mk a) (Vm.Alike.refl U.vm) qK, qD⟩
section BWR
variable {p : Program} {l : Launch} {e : Env} {R : Room} {s : State} {m : MethodId} {args : Array Value} {below : List Frame} {meth : Method} {c : Code} {H : Heap} {locs : List Loc} {cells slots : Nat} {Q : State → Prop}
variable {cc : ByteArray} {nL pc : Nat} {ls : Array Slot} {rest : List Value} {G : va_G} {cy : Nat → ClassId} {A : Nat → Prop} {H0 : Heap} {ws : va_W} {own : String} {x0 : Cond} {a : Nat}
theorem bw_get (S : CallFix p m c cc nL s args (x0 :: bw_L) own) (hK : va_K G vwCl (bw_tys cy) s) (hI : bw_I G A H0 ws H locs) (q0 k : Nat) {ci N index : Nat} {C : String} {T : u_T} {fs : List Value} {v : Value} (he : ws[q0]? = some (a, .inr (ci, fs))) (hc : vwCl[ci]? = some (C, T, N)) (hk : k < N) (hin : ∀ w ∈ u_ws C T N, w ∈ bw_L)
    (hlink : Cond.fieldLink own index (T k).1 (T k).2.1 (T k).2.2.1 ∈ bw_L) (hv : fs[k]? = some v) (hdg : decode cc pc = .ok (.getfield index, 3)) (kk : W p l e R s m args below meth c H locs cells slots Q (F0 m (pc + 3) ls (v :: rest))) : W p l e R s m args below meth c H locs cells slots Q (F0 m pc ls (.ref a :: rest)) := by
  obtain ⟨hx, hb, -, hown, hts⟩ := S
  exact va_get hx hb hts (fun w h => List.mem_cons_of_mem _ (hin w h)) hown hK hI.1 q0 he hc k hk (hts _ (List.mem_cons_of_mem _ hlink)) (fun _ h => h) hv hdg kk
theorem bw_put (S : CallFix p m c cc nL s args (x0 :: bw_L) own) (hK : va_K G vwCl (bw_tys cy) s) (hI : bw_I G A H0 ws H locs) (q0 k : Nat) {ci N index : Nat} {C : String} {T : u_T} {fs : List Value} {v : Value} {ws' : va_W} (ty0 : Nat → FieldType) (hty : ∀ k, k < N → parseFieldDescriptor (T k).2.2.1 = some (ty0 k)) (hnm : ∀ a, a < N → ∀ b, b < N → a ≠ b → (T a).2.1 ≠ (T b).2.1)
    (he : ws[q0]? = some (a, .inr (ci, fs))) (hc : vwCl[ci]? = some (C, T, N)) (hk : k < N) (hin : ∀ w ∈ u_ws C T N, w ∈ bw_L) (hlink : Cond.fieldLink own index (T k).1 (T k).2.1 (T k).2.2.1 ∈ bw_L) (hfin : (T k).2.2.2 = false) {ty : FieldType} (hd : ty0 k = ty) (hn : narrow ty v = v) (hfit : fits ty v = true) (hl : k < fs.length) (hw : ws.set q0 (a, .inr (ci, fs.set k v)) = ws')
    (hdg : decode cc pc = .ok (.putfield index, 3)) (kk : ∀ (H1 : Heap) (locs1 : List Loc), bw_I G A H0 ws' H1 locs1 → W p l e R s m args below meth c H1 locs1 cells slots Q (F0 m (pc + 3) ls rest)) : W p l e R s m args below meth c H locs cells slots Q (F0 m pc ls (v :: .ref a :: rest)) := by
  obtain ⟨hx, hb, -, hown, hts⟩ := S
  subst hw
  refine va_put hx hb hts (fun w h => List.mem_cons_of_mem _ (hin w h)) ty0 hty hnm hown hK hI.1 hI.2.1 hI.2.2.1 q0 he hc k hk (hts _ (List.mem_cons_of_mem _ hlink)) (fun _ h => h) hfin (by rw [hty k hk, hd]) hn hfit hl hdg (fun H1 locs1 h1 h2 h3 => kk H1 locs1 ⟨h1, h2, h3, hI.2.2.2⟩)
theorem bw_iald (hx : p.tables.exec = Jvm.exec) (hb : c.code = cc) (hK : va_K G vwCl (bw_tys cy) s) (hI : bw_I G A H0 ws H locs) (q0 : Nat) {n : Nat} {f : Nat → Int32} {i v : Int32} (hv : bw_rd n f i = some v) (he : ws[q0]? = some (a, .inl (cy 0, n, .inl f))) (hdg : decode cc pc = .ok (.iaload, 1))
    (kk : W p l e R s m args below meth c H locs cells slots Q (F0 m (pc + 1) ls (.int v :: rest))) : W p l e R s m args below meth c H locs cells slots Q (F0 m pc ls (.int i :: .ref a :: rest)) := by
  obtain ⟨h1, rfl⟩ := bw_rd_e hv
  exact va_iald hx hb hK hI.1 q0 0 he rfl h1 hdg kk
theorem bw_iast (hx : p.tables.exec = Jvm.exec) (hb : c.code = cc) (hK : va_K G vwCl (bw_tys cy) s) (hI : bw_I G A H0 ws H locs) (q0 : Nat) {n : Nat} {f f' : Nat → Int32} {i x : Int32} {ws' : va_W} (hv : bw_wr n f i x = some f') (he : ws[q0]? = some (a, .inl (cy 0, n, .inl f))) (hw : ws.set q0 (a, .inl (cy 0, n, .inl f')) = ws') (hdg : decode cc pc = .ok (.iastore, 1))
    (kk : ∀ (H1 : Heap) (locs1 : List Loc), bw_I G A H0 ws' H1 locs1 → W p l e R s m args below meth c H1 locs1 cells slots Q (F0 m (pc + 1) ls rest)) : W p l e R s m args below meth c H locs cells slots Q (F0 m pc ls (.int x :: .int i :: .ref a :: rest)) := by
  obtain ⟨h1, rfl⟩ := bw_wr_e hv
  subst hw
  exact va_iast hx hb hK hI.1 hI.2.1 hI.2.2.1 q0 0 he rfl h1 hdg (fun H1 locs1 q1 q2 q3 => kk H1 locs1 ⟨q1, q2, q3, hI.2.2.2⟩)
theorem bw_alen (hx : p.tables.exec = Jvm.exec) (hb : c.code = cc) (hK : va_K G vwCl (bw_tys cy) s) (hI : bw_I G A H0 ws H locs) (q0 : Nat) {n : Nat} {f : Nat → Int32} {v : Int32} (he : ws[q0]? = some (a, .inl (cy 0, n, .inl f))) (hv : Int32.ofNat n = v) (hdg : decode cc pc = .ok (.arraylength, 1))
    (kk : W p l e R s m args below meth c H locs cells slots Q (F0 m (pc + 1) ls (.int v :: rest))) : W p l e R s m args below meth c H locs cells slots Q (F0 m pc ls (.ref a :: rest)) :=
  va_alen hx hb hK hI.1 q0 0 he (ty := .int) rfl hv hdg kk
/-- behind any call by a contract of the layer -/
theorem bw_go {rv : Option Value} {wc rs w1 ws' : va_W} {st0 st1 : List Value} {mc ms : Nat} {av : Array Value} (hr : va_Run p l e R s m args below meth c H locs cells slots mc ms (F0 m pc ls st0) rest (bw_Q G rv w1 (va_A wc H.size) av) (va_A wc H.size))
    (hI : bw_I G A H0 ws H locs) (he : ws.Perm (wc ++ rs)) (he' : (w1 ++ rs).Perm ws') (hf : w1.map Prod.fst = wc.map Prod.fst) (hst : rv.toList ++ rest = st1)
    (kk : ∀ (H1 : Heap) (locs1 : List Loc), bw_I G A H0 ws' H1 locs1 → W p l e R s m args below meth c H1 locs1 (cells + mc) (slots + ms) Q (F0 m (pc + 3) ls st1)) : W p l e R s m args below meth c H locs cells slots Q (F0 m pc ls st0) := by
  intro T hT X
  obtain ⟨v, st₀, t, T', L, h0, X', hL, e1, e2, ⟨hv, hP1, hz, hk⟩, st⟩ := hr T hT X
  have hv : v = rv := by injection hv
  subst hv
  rw [h0] at hz hk
  have hsub : ∀ q, va_A wc H.size q → A q := by
    intro q hq
    obtain ⟨-, hD, hS, hA⟩ := hI
    rcases bw_A_iff.mp hq with h | h
    · obtain ⟨q2, h3, rfl⟩ := List.mem_map.mp h
      exact (bw_D_iff.mp hD).2 q2 (he.mem_iff.mpr (List.mem_append_left _ h3))
    · exact hA q (Nat.le_trans hS.1 h)
  have hS := hI.2.2.1
  have hS1 : va_S A H0 T'.heap (locs ++ L) := ⟨Nat.le_trans hS.1 (by rw [e1]; exact hz), fun q h1 h2 => by rw [e1, hk q (Nat.lt_of_lt_of_le h1 hS.1) (fun z => h2 (hsub q z))]; exact hS.2.1 q h1 h2, fun q hq => by
    rcases List.mem_append.mp hq with h | h
    · exact hS.2.2 q h
    · exact hsub _ (hL q h)⟩
  have hI1 : bw_I G A H0 ws' T'.heap (locs ++ L) := bw_join hI he he' hf (fun q h1 h2 => by rw [e1]; exact hk q h1 h2) (by rw [e1]; exact hP1) hS1
  obtain ⟨t2, a1, b1⟩ := kk T'.heap (locs ++ L) hI1 T' rfl X'
  subst hst
  exact ⟨t2, st t2 a1, b1⟩
theorem bw_pre {av : List Value} {wc rs : va_W} (hK : va_K G vwCl (bw_tys cy) s) (hI : bw_I G A H0 ws H locs) (he : ws.Perm (wc ++ rs)) : ∀ U : State, U.heap = H → s.WarmedH U.vm → va_Pc av (bw_B G cy wc H.size) av.toArray U := by
  intro U hU hW
  have hq := bw_perm hI he
  refine ⟨rfl, by rw [hU], ?_, va_K.moved hW.alike hK, ?_⟩
  · rw [hU]
    exact bw_P_iff.mpr fun q h => bw_P_iff.mp hq.1 q (List.mem_append_left _ h)
  · have hd := bw_D_iff.mp hq.2.1
    refine bw_D_iff.mpr ⟨?_, fun _ _ => trivial⟩
    have := hd.1
    rw [List.map_append, List.nodup_append] at this
    exact this.1
theorem bw_callV {y : MethodName} {bytes : ByteArray} {maxL n index f loc : Nat} {ret : Option FieldType} {C : String} {b : Addr} {As : List Value} {rv : Option Value} {wc rs w1 ws' : va_W} {st1 : List Value} (S : CallFix p m c cc nL s args (x0 :: bw_L) own) (hK : va_K G vwCl (bw_tys cy) s) (hI : bw_I G A H0 ws H locs)
    (hM : bw_M l y bytes maxL ret f loc G cy (.ref b :: As) wc rv w1) (hY : bw_Y y bytes maxL ret n) (hV : Cond.instanceMethod y ∈ bw_L ∧ Cond.selects C y y ∈ bw_L) (hl : Cond.methodLink own index y ∈ bw_L) (hR : f + 1 ≤ R.frames ∧ 8 + (maxL + 11) + loc ≤ R.locals)
    {q0 ci : Nat} {fs : List Value} {r : vw_C} (hr1 : wc[q0]? = some (b, .inr (ci, fs))) (hr2 : vwCl[ci]? = some r) (hr3 : r.1 = C)
    (he : ws.Perm (wc ++ rs)) (he' : (w1 ++ rs).Perm ws') (hf : w1.map Prod.fst = wc.map Prod.fst) (hn : As.length = n) (hsize : ls.size = nL) {st : List Value} (hst0 : As.reverse ++ .ref b :: rest = st) (hst : rv.toList ++ rest = st1) (hW : (rest.map fun v => v.category).sum ≤ 8) (hdg : decode cc pc = .ok (.invokevirtual index, 3)) (hcs : cells ≤ R.cells ∧ slots ≤ R.slots)
    (kk : ∀ (H1 : Heap) (locs1 : List Loc), bw_I G A H0 ws' H1 locs1 → W p l e R s m args below meth c H1 locs1 cells slots Q (F0 m (pc + 3) ls st1)) : W p l e R s m args below meth c H locs cells slots Q (F0 m pc ls st) := by
  subst hst0
  have hts := S.2.2.2.2
  have hq := bw_perm hI he
  have hPw : va_P G vwCl wc H := bw_P_iff.mpr fun q h => bw_P_iff.mp hq.1 q (List.mem_append_left _ h)
  have hrecv := va_recv hK hPw hr2 hr1
  rw [hr3] at hrecv
  exact bw_go (mc := 0) (ms := 0) (va_runV (As := As) (rest := rest) S (hM H.size) (bw_cwV (rm := bw_rm f loc) hts hY hV hl hR rfl rfl) ⟨bw_blind, hrecv, bw_pre hK hI he⟩ rfl hn hsize rfl (lv_room hW) hdg hcs) hI he he' hf hst kk
theorem bw_callS {y : MethodName} {bytes : ByteArray} {maxL n index f loc : Nat} {ret : Option FieldType} {As : List Value} {rv : Option Value} {wc rs w1 ws' : va_W} {st1 : List Value} (S : CallFix p m c cc nL s args (x0 :: bw_L) own) (hK : va_K G vwCl (bw_tys cy) s) (hI : bw_I G A H0 ws H locs)
    (hM : bw_M l y bytes maxL ret f loc G cy As wc rv w1) (hY : bw_Y y bytes maxL ret n) (hV : Cond.static y ∈ bw_L) (hl : Cond.methodLink own index y ∈ bw_L) (hR : f + 1 ≤ R.frames ∧ 8 + (maxL + 11) + loc ≤ R.locals)
    (he : ws.Perm (wc ++ rs)) (he' : (w1 ++ rs).Perm ws') (hf : w1.map Prod.fst = wc.map Prod.fst) (hn : As.length = n) (hsize : ls.size = nL) {st : List Value} (hst0 : As.reverse ++ rest = st) (hst : rv.toList ++ rest = st1) (hW : (rest.map fun v => v.category).sum ≤ 8) (hdg : decode cc pc = .ok (.invokestatic index, 3)) (hcs : cells ≤ R.cells ∧ slots ≤ R.slots)
    (kk : ∀ (H1 : Heap) (locs1 : List Loc), bw_I G A H0 ws' H1 locs1 → W p l e R s m args below meth c H1 locs1 cells slots Q (F0 m (pc + 3) ls st1)) : W p l e R s m args below meth c H locs cells slots Q (F0 m pc ls st) := by
  subst hst0
  have hts := S.2.2.2.2
  exact bw_go (mc := 0) (ms := 0) (va_runS (As := As) (rest := rest) S (hM H.size) (bw_cwS (rm := bw_rm f loc) hts hY hV hl hR rfl rfl) ⟨bw_blind, bw_pre hK hI he⟩ rfl hn hsize rfl (lv_room hW) hdg hcs) hI he he' hf hst kk
/-- a static method that touches no world -/
theorem bw_callP {y : MethodName} {bytes : ByteArray} {maxL n index f loc : Nat} {ret : Option FieldType} {As : List Value} {rv : Option Value} {st1 : List Value} (S : CallFix p m c cc nL s args (x0 :: bw_L) own) (hK : va_K G vwCl (bw_tys cy) s) (hI : bw_I G A H0 ws H locs)
    (hM : bw_M l y bytes maxL ret f loc G cy As [] rv []) (hY : bw_Y y bytes maxL ret n) (hV : Cond.static y ∈ bw_L) (hl : Cond.methodLink own index y ∈ bw_L) (hR : f + 1 ≤ R.frames ∧ 8 + (maxL + 11) + loc ≤ R.locals)
    (hn : As.length = n) (hsize : ls.size = nL) {st : List Value} (hst0 : As.reverse ++ rest = st) (hst : rv.toList ++ rest = st1) (hW : (rest.map fun v => v.category).sum ≤ 8) (hdg : decode cc pc = .ok (.invokestatic index, 3)) (hcs : cells ≤ R.cells ∧ slots ≤ R.slots)
    (kk : ∀ (H1 : Heap) (locs1 : List Loc), bw_I G A H0 ws H1 locs1 → W p l e R s m args below meth c H1 locs1 cells slots Q (F0 m (pc + 3) ls st1)) : W p l e R s m args below meth c H locs cells slots Q (F0 m pc ls st) :=
  bw_callS S hK hI hM hY hV hl hR (bw_p0 ws) (List.Perm.refl _) rfl hn hsize hst0 hst hW hdg hcs kk
/-! ends -/
theorem bw_iret {σ : Type} {v : Int32} {d : σ} {rr : Int32 × σ} {ty : FieldType} (S : CallFix p m c cc nL s args (x0 :: bw_L) own) (hr : meth.sig.returnType = some ty) (hlocks : meth.locks = false) (h : some (v, d) = some rr) (wf : σ → va_W) (hI : bw_I G A s.heap (wf d) H locs) (hn : narrow ty (.int v) = .int v) (hdg : decode cc pc = .ok (.ireturn, 1)) :
    W p l e R s m args below meth c H locs 0 0 (MQ below (bw_Q G (some (.int rr.1)) (wf rr.2) A) args s 0 0 A) (F0 m pc ls [.int v]) := by
  cases h
  exact W.zret S.1 S.2.1 hr hn (fun t ht hW => ⟨rfl, by rw [ht]; exact hI.1, hI.2.2.1.F ht⟩) hI.2.2.1.2.2 hdg hlocks
theorem bw_iretP {v rr : Int32} {ty : FieldType} (S : CallFix p m c cc nL s args (x0 :: bw_L) own) (hr : meth.sig.returnType = some ty) (hlocks : meth.locks = false) (h : some v = some rr) (hI : bw_I G A s.heap ws H locs) (hn : narrow ty (.int v) = .int v) (hdg : decode cc pc = .ok (.ireturn, 1)) :
    W p l e R s m args below meth c H locs 0 0 (MQ below (bw_Q G (some (.int rr)) ws A) args s 0 0 A) (F0 m pc ls [.int v]) := by
  cases h
  exact W.zret S.1 S.2.1 hr hn (fun t ht hW => ⟨rfl, by rw [ht]; exact hI.1, hI.2.2.1.F ht⟩) hI.2.2.1.2.2 hdg hlocks
theorem bw_vret {σ : Type} {d rr : σ} (S : CallFix p m c cc nL s args (x0 :: bw_L) own) (hr : meth.sig.returnType = none) (hlocks : meth.locks = false) (h : some d = some rr) (wf : σ → va_W) (hI : bw_I G A s.heap (wf d) H locs) (hdg : decode cc pc = .ok (.return_, 1)) :
    W p l e R s m args below meth c H locs 0 0 (MQ below (bw_Q G none (wf rr) A) args s 0 0 A) (F0 m pc ls []) := by
  cases h
  exact W.vret S.1 S.2.1 hr (fun t ht hW => ⟨rfl, by rw [ht]; exact hI.1, hI.2.2.1.F ht⟩) hI.2.2.1.2.2 hdg hlocks
theorem bw_lret {σ : Type} {v : Int64} {d : σ} {rr : Int64 × σ} (S : CallFix p m c cc nL s args (x0 :: bw_L) own) (hr : meth.sig.returnType = some .long) (hlocks : meth.locks = false) (h : some (v, d) = some rr) (wf : σ → va_W) (hI : bw_I G A s.heap (wf d) H locs) (hdg : decode cc pc = .ok (.lreturn, 1)) :
    W p l e R s m args below meth c H locs 0 0 (MQ below (bw_Q G (some (.long rr.1)) (wf rr.2) A) args s 0 0 A) (F0 m pc ls [.long v]) := by
  cases h
  exact W.lret S.1 S.2.1 hr (fun t ht hW => ⟨rfl, by rw [ht]; exact hI.1, hI.2.2.1.F ht⟩) hI.2.2.1.2.2 hdg hlocks
theorem bw_lretP {v rr : Int64} (S : CallFix p m c cc nL s args (x0 :: bw_L) own) (hr : meth.sig.returnType = some .long) (hlocks : meth.locks = false) (h : some v = some rr) (hI : bw_I G A s.heap ws H locs) (hdg : decode cc pc = .ok (.lreturn, 1)) :
    W p l e R s m args below meth c H locs 0 0 (MQ below (bw_Q G (some (.long rr)) ws A) args s 0 0 A) (F0 m pc ls [.long v]) := by
  cases h
  exact W.lret S.1 S.2.1 hr (fun t ht hW => ⟨rfl, by rw [ht]; exact hI.1, hI.2.2.1.F ht⟩) hI.2.2.1.2.2 hdg hlocks
theorem bw_dret {σ : Type} {v : UInt64} {d : σ} {rr : UInt64 × σ} (S : CallFix p m c cc nL s args (x0 :: bw_L) own) (hr : meth.sig.returnType = some .double) (hlocks : meth.locks = false) (h : some (v, d) = some rr) (wf : σ → va_W) (hI : bw_I G A s.heap (wf d) H locs) (hdg : decode cc pc = .ok (.dreturn, 1)) :
    W p l e R s m args below meth c H locs 0 0 (MQ below (bw_Q G (some (.double rr.1)) (wf rr.2) A) args s 0 0 A) (F0 m pc ls [.double v]) := by
  cases h
  exact W.dret S.1 S.2.1 hr (fun t ht hW => ⟨rfl, by rw [ht]; exact hI.1, hI.2.2.1.F ht⟩) hI.2.2.1.2.2 hdg hlocks
theorem bw_dretP {v rr : UInt64} (S : CallFix p m c cc nL s args (x0 :: bw_L) own) (hr : meth.sig.returnType = some .double) (hlocks : meth.locks = false) (h : some v = some rr) (hI : bw_I G A s.heap ws H locs) (hdg : decode cc pc = .ok (.dreturn, 1)) :
    W p l e R s m args below meth c H locs 0 0 (MQ below (bw_Q G (some (.double rr)) ws A) args s 0 0 A) (F0 m pc ls [.double v]) := by
  cases h
  exact W.dret S.1 S.2.1 hr (fun t ht hW => ⟨rfl, by rw [ht]; exact hI.1, hI.2.2.1.F ht⟩) hI.2.2.1.2.2 hdg hlocks
end BWR
/-- a contract out of a walk of the body -/
theorem bw_ofW {l : Launch} {y : MethodName} {cc : ByteArray} {n : Nat} {r : Option FieldType} {f loc : Nat} {G : va_G} {cy : Nat → ClassId} {av : List Value} {ws : va_W} {rv : Option Value} {ws' : va_W} (hy : plainName y.cls = true) (own : String) (ho : y.cls = own) (hlen : (lg_sl av).length ≤ n)
    (body : ∀ (p : Program) (e : Env) (s : State) (m : MethodId) (below : List Frame) (meth : Method) (c : Code) (ls : Array Slot), CallFix p m c cc n s av.toArray (Cond.code y cc n r :: bw_L) own → meth.sig.returnType = r → meth.locks = false → va_K G vwCl (bw_tys cy) s → bw_I G (va_A ws s.heap.size) s.heap ws s.heap [] → lv_has ls n (lv_args 0 av) →
      W p l e (bw_rm f loc) s m av.toArray below meth c s.heap [] 0 0 (MQ below (bw_Q G rv ws' (va_A ws s.heap.size)) av.toArray s 0 0 (va_A ws s.heap.size)) (F0 m 0 ls [])) : bw_M l y cc n r f loc G cy av ws rv ws' := by
  intro sz
  refine Met.ofW (cc := cc) (maxL := n) (ret := r) hy rfl ?_
  intro p e s m args below meth c s₁ B hml hv
  obtain ⟨rfl, hsz, hP, hK, hD0⟩ := hv
  have hts := atoms_spec (ws := bw_ws y cc n r) B.pre
  have hown : s.vm.findClass own = some m.cls := by rw [← ho]; exact findClass_of_methodNamed B.named
  subst hsz
  rw [lg_entry_eq]
  exact body p e s m below meth c _ ⟨B.exec, B.bytes, hml, hown, hts⟩ B.returns B.notSynchronized hK ⟨hP, hD0.self, va_S.rf, fun q h => Or.inr h⟩ (lv_entry av hlen)
end
