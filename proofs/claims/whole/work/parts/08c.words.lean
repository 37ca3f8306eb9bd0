theorem bw_atl {L : List Cond} {X : Cond} (h : L.all (fun w => decide (w = X) || decide (w ∈ bw_dcw) || (decide (w ∈ lw_tbl) && goodWord w)) = true) : ∀ w ∈ L, w = X ∨ w ∈ bw_dcw ∨ w ∈ bw_L := by
  intro w hw
  have h1 := List.all_eq_true.mp h w hw
  simp only [Bool.or_eq_true, Bool.and_eq_true, decide_eq_true_eq] at h1
  rcases h1 with (h1 | h1) | h1
  · exact Or.inl h1
  · exact Or.inr (Or.inl h1)
  · exact Or.inr (Or.inr (List.mem_filter.mpr h1))
/-! ===== words for the rest (printed by gen.py) ===== -/
set_option maxRecDepth 100000 in
theorem c_X5_170 : (Jvm.Cond.classLink "BufferLoans" (170 : Nat) "java/lang/IndexOutOfBoundsException") ∈ bw_L := bw_memT 529 rfl rfl
set_option maxRecDepth 100000 in
theorem c_X5_37 : (Jvm.Cond.classLink "BufferLoans" (37 : Nat) "java/lang/IllegalArgumentException") ∈ bw_L := bw_memT 419 rfl rfl
set_option maxRecDepth 100000 in
theorem c_X5_48 : (Jvm.Cond.classLink "BufferLoans" (48 : Nat) "java/lang/IllegalStateException") ∈ bw_L := bw_memT 487 rfl rfl
set_option maxRecDepth 100000 in
theorem f_X5_22 : (Jvm.Cond.fieldLink "BufferLoans" (22 : Nat) "BufferLoans" "history" "LBufferLoans$History;") ∈ bw_L := bw_memT 129 rfl rfl
set_option maxRecDepth 100000 in
theorem f_X5_232 : (Jvm.Cond.fieldLink "BufferLoans" (232 : Nat) "BufferLoans" "GREATEST_VALUES" "[I") ∈ bw_L := bw_memT 271 rfl rfl
set_option maxRecDepth 100000 in
theorem k_Jxe99ae_137 : (Jvm.Cond.constantLong "java/lang/Double" (137 : Nat) (9221120237041090560 : Int64)) ∈ bw_L := bw_memT 1137 rfl rfl
set_option maxRecDepth 100000 in
theorem k_X5_226 : (Jvm.Cond.constantLong "BufferLoans" (226 : Nat) (2473 : Int64)) ∈ bw_L := bw_memT 250 rfl rfl
set_option maxRecDepth 100000 in
theorem k_X5_271 : (Jvm.Cond.constantLong "BufferLoans" (271 : Nat) (-1 : Int64)) ∈ bw_L := bw_memT 378 rfl rfl
set_option maxRecDepth 100000 in
theorem k_X6_234 : (Jvm.Cond.constantLong "BufferLoansModel" (234 : Nat) (2473 : Int64)) ∈ bw_L := bw_memT 1118 rfl rfl
set_option maxRecDepth 100000 in
theorem l_JD_i : (Jvm.Cond.initialized "java/lang/Double") ∈ bw_L := bw_memT 16 rfl rfl
set_option maxRecDepth 100000 in
theorem l_JD_n : (Jvm.Cond.native ({ cls := "java/lang/Double", name := "doubleToRawLongBits", desc := "(D)J" } : Jvm.MethodName)) ∈ bw_L := bw_memT 1136 rfl rfl
set_option maxRecDepth 100000 in
theorem l_JD_s : (Jvm.Cond.static ({ cls := "java/lang/Double", name := "doubleToRawLongBits", desc := "(D)J" } : Jvm.MethodName)) ∈ bw_L := bw_memT 1135 rfl rfl
set_option maxRecDepth 100000 in
theorem l_Jxe99ae_122 : (Jvm.Cond.methodLink "java/lang/Double" (122 : Nat) ({ cls := "java/lang/Double", name := "isNaN", desc := "(D)Z" } : Jvm.MethodName)) ∈ bw_L := bw_memT 1131 rfl rfl
set_option maxRecDepth 100000 in
theorem l_Jxe99ae_134 : (Jvm.Cond.methodLink "java/lang/Double" (134 : Nat) ({ cls := "java/lang/Double", name := "doubleToRawLongBits", desc := "(D)J" } : Jvm.MethodName)) ∈ bw_L := bw_memT 1134 rfl rfl
set_option maxRecDepth 100000 in
theorem l_X5_104 : (Jvm.Cond.methodLink "BufferLoans" (104 : Nat) ({ cls := "BufferLoans$Desk", name := "doNextTask", desc := "(II)I" } : Jvm.MethodName)) ∈ bw_L := bw_memT 329 rfl rfl
set_option maxRecDepth 100000 in
theorem l_X5_111 : (Jvm.Cond.methodLink "BufferLoans" (111 : Nat) ({ cls := "BufferLoans$Desk", name := "lendDays", desc := "(III)V" } : Jvm.MethodName)) ∈ bw_L := bw_memT 596 rfl rfl
set_option maxRecDepth 100000 in
theorem l_X5_115 : (Jvm.Cond.methodLink "BufferLoans" (115 : Nat) ({ cls := "BufferLoans$Desk", name := "daysOwed", desc := "(II)I" } : Jvm.MethodName)) ∈ bw_L := bw_memT 394 rfl rfl
set_option maxRecDepth 100000 in
theorem l_X5_120 : (Jvm.Cond.methodLink "BufferLoans" (120 : Nat) ({ cls := "BufferLoans$Desk", name := "placeOfLoan", desc := "(II)I" } : Jvm.MethodName)) ∈ bw_L := bw_memT 605 rfl rfl
set_option maxRecDepth 100000 in
theorem l_X5_123 : (Jvm.Cond.methodLink "BufferLoans" (123 : Nat) ({ cls := "BufferLoans$Desk", name := "payLoan", desc := "(II)V" } : Jvm.MethodName)) ∈ bw_L := bw_memT 606 rfl rfl
set_option maxRecDepth 100000 in
theorem l_X5_129 : (Jvm.Cond.methodLink "BufferLoans" (129 : Nat) ({ cls := "BufferLoans$Desk", name := "closeProject", desc := "(I)I" } : Jvm.MethodName)) ∈ bw_L := bw_memT 615 rfl rfl
set_option maxRecDepth 100000 in
theorem l_X5_139 : (Jvm.Cond.methodLink "BufferLoans" (139 : Nat) ({ cls := "BufferLoans$Text", name := "add", desc := "(I)V" } : Jvm.MethodName)) ∈ bw_L := bw_memT 632 rfl rfl
set_option maxRecDepth 100000 in
theorem l_X5_148 : (Jvm.Cond.methodLink "BufferLoans" (148 : Nat) ({ cls := "BufferLoans$Text", name := "isWholePlan", desc := "()Z" } : Jvm.MethodName)) ∈ bw_L := bw_memT 643 rfl rfl
set_option maxRecDepth 100000 in
theorem l_X5_154 : (Jvm.Cond.methodLink "BufferLoans" (154 : Nat) ({ cls := "BufferLoans$Text", name := "projectsInPlan", desc := "()I" } : Jvm.MethodName)) ∈ bw_L := bw_memT 653 rfl rfl
set_option maxRecDepth 100000 in
theorem l_X5_157 : (Jvm.Cond.methodLink "BufferLoans" (157 : Nat) ({ cls := "BufferLoans", name := "openProjectsOfText", desc := "()V" } : Jvm.MethodName)) ∈ bw_L := bw_memT 657 rfl rfl
set_option maxRecDepth 100000 in
theorem l_X5_160 : (Jvm.Cond.methodLink "BufferLoans" (160 : Nat) ({ cls := "BufferLoans$History", name := "size", desc := "()I" } : Jvm.MethodName)) ∈ bw_L := bw_memT 263 rfl rfl
set_option maxRecDepth 100000 in
theorem l_X5_165 : (Jvm.Cond.methodLink "BufferLoans" (165 : Nat) ({ cls := "BufferLoans$History", name := "giveBack", desc := "(LBufferLoans$Desk;)V" } : Jvm.MethodName)) ∈ bw_L := bw_memT 670 rfl rfl
set_option maxRecDepth 100000 in
theorem l_X5_179 : (Jvm.Cond.methodLink "BufferLoans" (179 : Nat) ({ cls := "BufferLoans$Desk", name := "loans", desc := "()I" } : Jvm.MethodName)) ∈ bw_L := bw_memT 259 rfl rfl
set_option maxRecDepth 100000 in
theorem l_X5_186 : (Jvm.Cond.methodLink "BufferLoans" (186 : Nat) ({ cls := "BufferLoans$Desk", name := "loanPart", desc := "(II)I" } : Jvm.MethodName)) ∈ bw_L := bw_memT 395 rfl rfl
set_option maxRecDepth 100000 in
theorem l_X5_196 : (Jvm.Cond.methodLink "BufferLoans" (196 : Nat) ({ cls := "BufferLoans", name := "numberOf", desc := "(I)I" } : Jvm.MethodName)) ∈ bw_L := bw_memT 251 rfl rfl
set_option maxRecDepth 100000 in
theorem l_X5_199 : (Jvm.Cond.methodLink "BufferLoans" (199 : Nat) ({ cls := "BufferLoans$Desk", name := "valueOf", desc := "(I)I" } : Jvm.MethodName)) ∈ bw_L := bw_memT 272 rfl rfl
set_option maxRecDepth 100000 in
theorem l_X5_204 : (Jvm.Cond.methodLink "BufferLoans" (204 : Nat) ({ cls := "BufferLoans", name := "tryNextTask", desc := "(II)Z" } : Jvm.MethodName)) ∈ bw_L := bw_memT 309 rfl rfl
set_option maxRecDepth 100000 in
theorem l_X5_208 : (Jvm.Cond.methodLink "BufferLoans" (208 : Nat) ({ cls := "BufferLoans", name := "resultOfTrial", desc := "(II)I" } : Jvm.MethodName)) ∈ bw_L := bw_memT 374 rfl rfl
set_option maxRecDepth 100000 in
theorem l_X5_211 : (Jvm.Cond.methodLink "BufferLoans" (211 : Nat) ({ cls := "BufferLoans$Desk", name := "bearableDelay", desc := "(I)I" } : Jvm.MethodName)) ∈ bw_L := bw_memT 308 rfl rfl
set_option maxRecDepth 100000 in
theorem l_X5_217 : (Jvm.Cond.methodLink "BufferLoans" (217 : Nat) ({ cls := "BufferLoans", name := "bestRuleFor", desc := "(II)I" } : Jvm.MethodName)) ∈ bw_L := bw_memT 379 rfl rfl
set_option maxRecDepth 100000 in
theorem l_X5_236 : (Jvm.Cond.methodLink "BufferLoans" (236 : Nat) ({ cls := "BufferLoans", name := "mixWhatIs", desc := "(JI)J" } : Jvm.MethodName)) ∈ bw_L := bw_memT 276 rfl rfl
set_option maxRecDepth 100000 in
theorem l_X5_240 : (Jvm.Cond.methodLink "BufferLoans" (240 : Nat) ({ cls := "BufferLoans", name := "mixWhatWouldBe", desc := "(JI)J" } : Jvm.MethodName)) ∈ bw_L := bw_memT 304 rfl rfl
set_option maxRecDepth 100000 in
theorem l_X5_243 : (Jvm.Cond.methodLink "BufferLoans" (243 : Nat) ({ cls := "BufferLoans", name := "lateShare", desc := "()D" } : Jvm.MethodName)) ∈ bw_L := bw_memT 399 rfl rfl
set_option maxRecDepth 100000 in
theorem l_X5_247 : (Jvm.Cond.methodLink "BufferLoans" (247 : Nat) ({ cls := "BufferLoans", name := "bitsOfShare", desc := "(D)J" } : Jvm.MethodName)) ∈ bw_L := bw_memT 400 rfl rfl
set_option maxRecDepth 100000 in
theorem l_X5_263 : (Jvm.Cond.methodLink "BufferLoans" (263 : Nat) ({ cls := "BufferLoans$Desk", name := "copyFrom", desc := "(LBufferLoans$Desk;)V" } : Jvm.MethodName)) ∈ bw_L := bw_memT 317 rfl rfl
set_option maxRecDepth 100000 in
theorem l_X5_266 : (Jvm.Cond.methodLink "BufferLoans" (266 : Nat) ({ cls := "BufferLoans$Desk", name := "leastDaysLeft", desc := "()I" } : Jvm.MethodName)) ∈ bw_L := bw_memT 390 rfl rfl
set_option maxRecDepth 100000 in
theorem l_X5_33 : (Jvm.Cond.methodLink "BufferLoans" (33 : Nat) ({ cls := "BufferLoans", name := "isOutside", desc := "(III)Z" } : Jvm.MethodName)) ∈ bw_L := bw_memT 416 rfl rfl
set_option maxRecDepth 100000 in
theorem l_X5_53 : (Jvm.Cond.methodLink "BufferLoans" (53 : Nat) ({ cls := "BufferLoans$History", name := "keep", desc := "(LBufferLoans$Desk;)V" } : Jvm.MethodName)) ∈ bw_L := bw_memT 503 rfl rfl
set_option maxRecDepth 100000 in
theorem l_X5_61 : (Jvm.Cond.methodLink "BufferLoans" (61 : Nat) ({ cls := "BufferLoans", name := "needProject", desc := "(I)V" } : Jvm.MethodName)) ∈ bw_L := bw_memT 525 rfl rfl
set_option maxRecDepth 100000 in
theorem l_X5_67 : (Jvm.Cond.methodLink "BufferLoans" (67 : Nat) ({ cls := "BufferLoans$Desk", name := "isOpen", desc := "(I)Z" } : Jvm.MethodName)) ∈ bw_L := bw_memT 546 rfl rfl
set_option maxRecDepth 100000 in
theorem l_X5_81 : (Jvm.Cond.methodLink "BufferLoans" (81 : Nat) ({ cls := "BufferLoans$Desk", name := "changeRank", desc := "(II)I" } : Jvm.MethodName)) ∈ bw_L := bw_memT 560 rfl rfl
set_option maxRecDepth 100000 in
theorem l_X5_84 : (Jvm.Cond.methodLink "BufferLoans" (84 : Nat) ({ cls := "BufferLoans", name := "needSetting", desc := "(I)V" } : Jvm.MethodName)) ∈ bw_L := bw_memT 571 rfl rfl
set_option maxRecDepth 100000 in
theorem l_X5_87 : (Jvm.Cond.methodLink "BufferLoans" (87 : Nat) ({ cls := "BufferLoans", name := "greatestValue", desc := "(I)I" } : Jvm.MethodName)) ∈ bw_L := bw_memT 383 rfl rfl
set_option maxRecDepth 100000 in
theorem l_X5_93 : (Jvm.Cond.methodLink "BufferLoans" (93 : Nat) ({ cls := "BufferLoans$Desk", name := "changeSetting", desc := "(II)I" } : Jvm.MethodName)) ∈ bw_L := bw_memT 386 rfl rfl
set_option maxRecDepth 100000 in
theorem l_X5_96 : (Jvm.Cond.methodLink "BufferLoans" (96 : Nat) ({ cls := "BufferLoans", name := "needDaysTaken", desc := "(I)V" } : Jvm.MethodName)) ∈ bw_L := bw_memT 583 rfl rfl
set_option maxRecDepth 100000 in
theorem l_X5_99 : (Jvm.Cond.methodLink "BufferLoans" (99 : Nat) ({ cls := "BufferLoans$Desk", name := "hasNextTask", desc := "(I)Z" } : Jvm.MethodName)) ∈ bw_L := bw_memT 313 rfl rfl
set_option maxRecDepth 100000 in
theorem l_X6_236 : (Jvm.Cond.methodLink "BufferLoansModel" (236 : Nat) ({ cls := "BufferLoansModel", name := "mixProject", desc := "(I)V" } : Jvm.MethodName)) ∈ bw_L := bw_memT 1124 rfl rfl
set_option maxRecDepth 100000 in
theorem l_X6_239 : (Jvm.Cond.methodLink "BufferLoansModel" (239 : Nat) ({ cls := "java/lang/Double", name := "doubleToLongBits", desc := "(D)J" } : Jvm.MethodName)) ∈ bw_L := bw_memT 1128 rfl rfl
set_option maxRecDepth 100000 in
theorem Y_X5_open : bw_Y yX5_open cX5_open 3 (some .int) 2 := ⟨bw_memT 415 rfl rfl, bw_memT 1 rfl rfl, ⟨by decide +kernel, by decide +kernel⟩, by decide +kernel⟩
set_option maxRecDepth 100000 in
theorem V_X5_open : Cond.instanceMethod yX5_open ∈ bw_L ∧ Cond.selects RX5 yX5_open yX5_open ∈ bw_L := ⟨bw_memT 413 rfl rfl, bw_memT 414 rfl rfl⟩
set_option maxRecDepth 100000 in
theorem Y_X5_needProject : bw_Y yX5_needProject cX5_needProject 2 none 1 := ⟨bw_memT 528 rfl rfl, bw_memT 1 rfl rfl, ⟨by decide +kernel, by decide +kernel⟩, by decide +kernel⟩
set_option maxRecDepth 100000 in
theorem V_X5_needProject : Cond.instanceMethod yX5_needProject ∈ bw_L ∧ Cond.selects RX5 yX5_needProject yX5_needProject ∈ bw_L := ⟨bw_memT 527 rfl rfl, bw_mem 22 rfl rfl⟩
set_option maxRecDepth 100000 in
theorem Y_X5_plan : bw_Y yX5_plan cX5_plan 3 (some .int) 2 := ⟨bw_memT 524 rfl rfl, bw_memT 1 rfl rfl, ⟨by decide +kernel, by decide +kernel⟩, by decide +kernel⟩
set_option maxRecDepth 100000 in
theorem V_X5_plan : Cond.instanceMethod yX5_plan ∈ bw_L ∧ Cond.selects RX5 yX5_plan yX5_plan ∈ bw_L := ⟨bw_memT 522 rfl rfl, bw_memT 523 rfl rfl⟩
set_option maxRecDepth 100000 in
theorem Y_X5_rank : bw_Y yX5_rank cX5_rank 3 (some .int) 2 := ⟨bw_memT 558 rfl rfl, bw_memT 1 rfl rfl, ⟨by decide +kernel, by decide +kernel⟩, by decide +kernel⟩
set_option maxRecDepth 100000 in
theorem V_X5_rank : Cond.instanceMethod yX5_rank ∈ bw_L ∧ Cond.selects RX5 yX5_rank yX5_rank ∈ bw_L := ⟨bw_memT 556 rfl rfl, bw_memT 557 rfl rfl⟩
set_option maxRecDepth 100000 in
theorem Y_X5_needSetting : bw_Y yX5_needSetting cX5_needSetting 1 none 1 := ⟨bw_memT 573 rfl rfl, bw_memT 1 rfl rfl, ⟨by decide +kernel, by decide +kernel⟩, by decide +kernel⟩
set_option maxRecDepth 100000 in
theorem V_X5_needSetting : Cond.static yX5_needSetting ∈ bw_L := bw_memT 572 rfl rfl
set_option maxRecDepth 100000 in
theorem Y_X5_greatestValue : bw_Y yX5_greatestValue cX5_greatestValue 1 (some .int) 1 := ⟨bw_memT 385 rfl rfl, bw_memT 1 rfl rfl, ⟨by decide +kernel, by decide +kernel⟩, by decide +kernel⟩
set_option maxRecDepth 100000 in
theorem V_X5_greatestValue : Cond.static yX5_greatestValue ∈ bw_L := bw_memT 384 rfl rfl
set_option maxRecDepth 100000 in
theorem Y_X5_set : bw_Y yX5_set cX5_set 3 (some .int) 2 := ⟨bw_memT 570 rfl rfl, bw_memT 1 rfl rfl, ⟨by decide +kernel, by decide +kernel⟩, by decide +kernel⟩
set_option maxRecDepth 100000 in
theorem V_X5_set : Cond.instanceMethod yX5_set ∈ bw_L ∧ Cond.selects RX5 yX5_set yX5_set ∈ bw_L := ⟨bw_memT 568 rfl rfl, bw_memT 569 rfl rfl⟩
set_option maxRecDepth 100000 in
theorem Y_X5_needDaysTaken : bw_Y yX5_needDaysTaken cX5_needDaysTaken 1 none 1 := ⟨bw_memT 585 rfl rfl, bw_memT 1 rfl rfl, ⟨by decide +kernel, by decide +kernel⟩, by decide +kernel⟩
set_option maxRecDepth 100000 in
theorem V_X5_needDaysTaken : Cond.static yX5_needDaysTaken ∈ bw_L := bw_memT 584 rfl rfl
set_option maxRecDepth 100000 in
theorem Y_X5_done : bw_Y yX5_done cX5_done 3 (some .int) 2 := ⟨bw_memT 582 rfl rfl, bw_memT 1 rfl rfl, ⟨by decide +kernel, by decide +kernel⟩, by decide +kernel⟩
set_option maxRecDepth 100000 in
theorem V_X5_done : Cond.instanceMethod yX5_done ∈ bw_L ∧ Cond.selects RX5 yX5_done yX5_done ∈ bw_L := ⟨bw_memT 580 rfl rfl, bw_memT 581 rfl rfl⟩
set_option maxRecDepth 100000 in
theorem Y_X5_lend : bw_Y yX5_lend cX5_lend 4 (some .int) 3 := ⟨bw_memT 593 rfl rfl, bw_memT 1 rfl rfl, ⟨by decide +kernel, by decide +kernel⟩, by decide +kernel⟩
set_option maxRecDepth 100000 in
theorem V_X5_lend : Cond.instanceMethod yX5_lend ∈ bw_L ∧ Cond.selects RX5 yX5_lend yX5_lend ∈ bw_L := ⟨bw_memT 591 rfl rfl, bw_memT 592 rfl rfl⟩
set_option maxRecDepth 100000 in
theorem Y_X5_payBack : bw_Y yX5_payBack cX5_payBack 4 (some .int) 3 := ⟨bw_memT 603 rfl rfl, bw_memT 1 rfl rfl, ⟨by decide +kernel, by decide +kernel⟩, by decide +kernel⟩
set_option maxRecDepth 100000 in
theorem V_X5_payBack : Cond.instanceMethod yX5_payBack ∈ bw_L ∧ Cond.selects RX5 yX5_payBack yX5_payBack ∈ bw_L := ⟨bw_memT 601 rfl rfl, bw_memT 602 rfl rfl⟩
set_option maxRecDepth 100000 in
theorem Y_X5_close : bw_Y yX5_close cX5_close 2 (some .int) 1 := ⟨bw_memT 613 rfl rfl, bw_memT 1 rfl rfl, ⟨by decide +kernel, by decide +kernel⟩, by decide +kernel⟩
set_option maxRecDepth 100000 in
theorem V_X5_close : Cond.instanceMethod yX5_close ∈ bw_L ∧ Cond.selects RX5 yX5_close yX5_close ∈ bw_L := ⟨bw_memT 611 rfl rfl, bw_memT 612 rfl rfl⟩
set_option maxRecDepth 100000 in
theorem Y_X5_append : bw_Y yX5_append cX5_append 2 (some .int) 1 := ⟨bw_memT 629 rfl rfl, bw_memT 1 rfl rfl, ⟨by decide +kernel, by decide +kernel⟩, by decide +kernel⟩
set_option maxRecDepth 100000 in
theorem V_X5_append : Cond.instanceMethod yX5_append ∈ bw_L ∧ Cond.selects RX5 yX5_append yX5_append ∈ bw_L := ⟨bw_memT 627 rfl rfl, bw_memT 628 rfl rfl⟩
set_option maxRecDepth 100000 in
theorem Y_X5_openAll : bw_Y yX5_openAll cX5_openAll 1 (some .int) 0 := ⟨bw_memT 642 rfl rfl, bw_memT 1 rfl rfl, ⟨by decide +kernel, by decide +kernel⟩, by decide +kernel⟩
set_option maxRecDepth 100000 in
theorem V_X5_openAll : Cond.instanceMethod yX5_openAll ∈ bw_L ∧ Cond.selects RX5 yX5_openAll yX5_openAll ∈ bw_L := ⟨bw_memT 640 rfl rfl, bw_memT 641 rfl rfl⟩
set_option maxRecDepth 100000 in
theorem Y_X5_undo : bw_Y yX5_undo cX5_undo 1 (some .int) 0 := ⟨bw_memT 668 rfl rfl, bw_memT 1 rfl rfl, ⟨by decide +kernel, by decide +kernel⟩, by decide +kernel⟩
set_option maxRecDepth 100000 in
theorem V_X5_undo : Cond.instanceMethod yX5_undo ∈ bw_L ∧ Cond.selects RX5 yX5_undo yX5_undo ∈ bw_L := ⟨bw_memT 666 rfl rfl, bw_memT 667 rfl rfl⟩
set_option maxRecDepth 100000 in
theorem Y_X5_project : bw_Y yX5_project cX5_project 3 (some .int) 2 := ⟨bw_memT 681 rfl rfl, bw_memT 1 rfl rfl, ⟨by decide +kernel, by decide +kernel⟩, by decide +kernel⟩
set_option maxRecDepth 100000 in
theorem V_X5_project : Cond.instanceMethod yX5_project ∈ bw_L ∧ Cond.selects RX5 yX5_project yX5_project ∈ bw_L := ⟨bw_memT 679 rfl rfl, bw_memT 680 rfl rfl⟩
set_option maxRecDepth 100000 in
theorem Y_X5_task : bw_Y yX5_task cX5_task 4 (some .int) 3 := ⟨bw_memT 689 rfl rfl, bw_memT 1 rfl rfl, ⟨by decide +kernel, by decide +kernel⟩, by decide +kernel⟩
set_option maxRecDepth 100000 in
theorem V_X5_task : Cond.instanceMethod yX5_task ∈ bw_L ∧ Cond.selects RX5 yX5_task yX5_task ∈ bw_L := ⟨bw_memT 687 rfl rfl, bw_memT 688 rfl rfl⟩
set_option maxRecDepth 100000 in
theorem Y_X5_loan : bw_Y yX5_loan cX5_loan 3 (some .int) 2 := ⟨bw_memT 697 rfl rfl, bw_memT 1 rfl rfl, ⟨by decide +kernel, by decide +kernel⟩, by decide +kernel⟩
set_option maxRecDepth 100000 in
theorem V_X5_loan : Cond.instanceMethod yX5_loan ∈ bw_L ∧ Cond.selects RX5 yX5_loan yX5_loan ∈ bw_L := ⟨bw_memT 695 rfl rfl, bw_memT 696 rfl rfl⟩
set_option maxRecDepth 100000 in
theorem Y_X5_owed : bw_Y yX5_owed cX5_owed 3 (some .int) 2 := ⟨bw_memT 706 rfl rfl, bw_memT 1 rfl rfl, ⟨by decide +kernel, by decide +kernel⟩, by decide +kernel⟩
set_option maxRecDepth 100000 in
theorem V_X5_owed : Cond.instanceMethod yX5_owed ∈ bw_L ∧ Cond.selects RX5 yX5_owed yX5_owed ∈ bw_L := ⟨bw_memT 704 rfl rfl, bw_memT 705 rfl rfl⟩
set_option maxRecDepth 100000 in
theorem Y_X5_lender : bw_Y yX5_lender cX5_lender 3 (some .int) 2 := ⟨bw_memT 713 rfl rfl, bw_memT 1 rfl rfl, ⟨by decide +kernel, by decide +kernel⟩, by decide +kernel⟩
set_option maxRecDepth 100000 in
theorem V_X5_lender : Cond.instanceMethod yX5_lender ∈ bw_L ∧ Cond.selects RX5 yX5_lender yX5_lender ∈ bw_L := ⟨bw_memT 711 rfl rfl, bw_memT 712 rfl rfl⟩
set_option maxRecDepth 100000 in
theorem Y_X5_numberOf : bw_Y yX5_numberOf cX5_numberOf 2 (some .int) 1 := ⟨bw_memT 254 rfl rfl, bw_memT 1 rfl rfl, ⟨by decide +kernel, by decide +kernel⟩, by decide +kernel⟩
set_option maxRecDepth 100000 in
theorem V_X5_numberOf : Cond.instanceMethod yX5_numberOf ∈ bw_L ∧ Cond.selects RX5 yX5_numberOf yX5_numberOf ∈ bw_L := ⟨bw_memT 253 rfl rfl, bw_mem 6 rfl rfl⟩
set_option maxRecDepth 100000 in
theorem Y_X5_count : bw_Y yX5_count cX5_count 2 (some .int) 1 := ⟨bw_memT 721 rfl rfl, bw_memT 1 rfl rfl, ⟨by decide +kernel, by decide +kernel⟩, by decide +kernel⟩
set_option maxRecDepth 100000 in
theorem V_X5_count : Cond.instanceMethod yX5_count ∈ bw_L ∧ Cond.selects RX5 yX5_count yX5_count ∈ bw_L := ⟨bw_memT 719 rfl rfl, bw_memT 720 rfl rfl⟩
set_option maxRecDepth 100000 in
theorem Y_X5_setting : bw_Y yX5_setting cX5_setting 2 (some .int) 1 := ⟨bw_memT 729 rfl rfl, bw_memT 1 rfl rfl, ⟨by decide +kernel, by decide +kernel⟩, by decide +kernel⟩
set_option maxRecDepth 100000 in
theorem V_X5_setting : Cond.instanceMethod yX5_setting ∈ bw_L ∧ Cond.selects RX5 yX5_setting yX5_setting ∈ bw_L := ⟨bw_memT 727 rfl rfl, bw_memT 728 rfl rfl⟩
set_option maxRecDepth 100000 in
theorem Y_X5_tryNextTask : bw_Y yX5_tryNextTask cX5_tryNextTask 3 (some .boolean) 2 := ⟨bw_memT 312 rfl rfl, bw_memT 1 rfl rfl, ⟨by decide +kernel, by decide +kernel⟩, by decide +kernel⟩
set_option maxRecDepth 100000 in
theorem V_X5_tryNextTask : Cond.instanceMethod yX5_tryNextTask ∈ bw_L ∧ Cond.selects RX5 yX5_tryNextTask yX5_tryNextTask ∈ bw_L := ⟨bw_memT 311 rfl rfl, bw_mem 11 rfl rfl⟩
set_option maxRecDepth 100000 in
theorem Y_X5_ifDone : bw_Y yX5_ifDone cX5_ifDone 4 (some .int) 3 := ⟨bw_memT 736 rfl rfl, bw_memT 1 rfl rfl, ⟨by decide +kernel, by decide +kernel⟩, by decide +kernel⟩
set_option maxRecDepth 100000 in
theorem V_X5_ifDone : Cond.instanceMethod yX5_ifDone ∈ bw_L ∧ Cond.selects RX5 yX5_ifDone yX5_ifDone ∈ bw_L := ⟨bw_memT 734 rfl rfl, bw_memT 735 rfl rfl⟩
set_option maxRecDepth 100000 in
theorem Y_X5_bears : bw_Y yX5_bears cX5_bears 2 (some .int) 1 := ⟨bw_memT 744 rfl rfl, bw_memT 1 rfl rfl, ⟨by decide +kernel, by decide +kernel⟩, by decide +kernel⟩
set_option maxRecDepth 100000 in
theorem V_X5_bears : Cond.instanceMethod yX5_bears ∈ bw_L ∧ Cond.selects RX5 yX5_bears yX5_bears ∈ bw_L := ⟨bw_memT 742 rfl rfl, bw_memT 743 rfl rfl⟩
set_option maxRecDepth 100000 in
theorem Y_X5_bestRuleFor : bw_Y yX5_bestRuleFor cX5_bestRuleFor 7 (some .int) 2 := ⟨bw_memT 382 rfl rfl, bw_memT 1 rfl rfl, ⟨by decide +kernel, by decide +kernel⟩, by decide +kernel⟩
set_option maxRecDepth 100000 in
theorem V_X5_bestRuleFor : Cond.instanceMethod yX5_bestRuleFor ∈ bw_L ∧ Cond.selects RX5 yX5_bestRuleFor yX5_bestRuleFor ∈ bw_L := ⟨bw_memT 381 rfl rfl, bw_mem 19 rfl rfl⟩
set_option maxRecDepth 100000 in
theorem Y_X5_bestRule : bw_Y yX5_bestRule cX5_bestRule 3 (some .int) 2 := ⟨bw_memT 751 rfl rfl, bw_memT 1 rfl rfl, ⟨by decide +kernel, by decide +kernel⟩, by decide +kernel⟩
set_option maxRecDepth 100000 in
theorem V_X5_bestRule : Cond.instanceMethod yX5_bestRule ∈ bw_L ∧ Cond.selects RX5 yX5_bestRule yX5_bestRule ∈ bw_L := ⟨bw_memT 749 rfl rfl, bw_memT 750 rfl rfl⟩
set_option maxRecDepth 100000 in
theorem Y_X5_mixWhatWouldBe : bw_Y yX5_mixWhatWouldBe cX5_mixWhatWouldBe 8 (some .long) 2 := ⟨bw_memT 307 rfl rfl, bw_memT 1 rfl rfl, ⟨by decide +kernel, by decide +kernel⟩, by decide +kernel⟩
set_option maxRecDepth 100000 in
theorem V_X5_mixWhatWouldBe : Cond.instanceMethod yX5_mixWhatWouldBe ∈ bw_L ∧ Cond.selects RX5 yX5_mixWhatWouldBe yX5_mixWhatWouldBe ∈ bw_L := ⟨bw_memT 306 rfl rfl, bw_mem 10 rfl rfl⟩
set_option maxRecDepth 100000 in
theorem Y_X5_digest : bw_Y yX5_digest cX5_digest 5 (some .long) 0 := ⟨bw_memT 249 rfl rfl, bw_memT 1 rfl rfl, ⟨by decide +kernel, by decide +kernel⟩, by decide +kernel⟩
set_option maxRecDepth 100000 in
theorem V_X5_digest : Cond.instanceMethod yX5_digest ∈ bw_L ∧ Cond.selects RX5 yX5_digest yX5_digest ∈ bw_L := ⟨bw_memT 247 rfl rfl, bw_memT 248 rfl rfl⟩
set_option maxRecDepth 100000 in
theorem Y_Jxe99ae_isNaN_b9ae7 : bw_Y yJxe99ae_isNaN_b9ae7 cJxe99ae_isNaN_b9ae7 2 (some .boolean) 1 := ⟨bw_memT 1133 rfl rfl, bw_memT 16 rfl rfl, ⟨by decide +kernel, by decide +kernel⟩, by decide +kernel⟩
set_option maxRecDepth 100000 in
theorem V_Jxe99ae_isNaN_b9ae7 : Cond.static yJxe99ae_isNaN_b9ae7 ∈ bw_L := bw_memT 1132 rfl rfl
set_option maxRecDepth 100000 in
theorem Y_Jxe99ae_doubleToLongBits_ccdee : bw_Y yJxe99ae_doubleToLongBits_ccdee cJxe99ae_doubleToLongBits_ccdee 2 (some .long) 1 := ⟨bw_memT 1130 rfl rfl, bw_memT 16 rfl rfl, ⟨by decide +kernel, by decide +kernel⟩, by decide +kernel⟩
set_option maxRecDepth 100000 in
theorem V_Jxe99ae_doubleToLongBits_ccdee : Cond.static yJxe99ae_doubleToLongBits_ccdee ∈ bw_L := bw_memT 1129 rfl rfl
set_option maxRecDepth 100000 in
theorem Y_X6_digest : bw_Y yX6_digest cX6_digest 2 (some .long) 0 := ⟨bw_memT 1117 rfl rfl, bw_memT 8 rfl rfl, ⟨by decide +kernel, by decide +kernel⟩, by decide +kernel⟩
set_option maxRecDepth 100000 in
theorem V_X6_digest : Cond.instanceMethod yX6_digest ∈ bw_L ∧ Cond.selects RX6 yX6_digest yX6_digest ∈ bw_L := ⟨bw_memT 1115 rfl rfl, bw_memT 1116 rfl rfl⟩
set_option maxRecDepth 100000 in
theorem x_1 : Cond.initialized (bw_exn 1) ∈ bw_L := bw_memT 15 rfl rfl
set_option maxRecDepth 100000 in
theorem at_1 : ∀ w ∈ vx_atS RX5 174 (bw_exn 1) bw_chain, w = .castable (bw_exn 1) (bw_exn 1) ∨ w ∈ bw_dcw ∨ w ∈ bw_L := bw_atl (by decide +kernel)
set_option maxRecDepth 100000 in
theorem x_2 : Cond.initialized (bw_exn 2) ∈ bw_L := bw_memT 12 rfl rfl
set_option maxRecDepth 100000 in
theorem at_2 : ∀ w ∈ vx_atS RX5 41 (bw_exn 2) bw_chain, w = .castable (bw_exn 2) (bw_exn 2) ∨ w ∈ bw_dcw ∨ w ∈ bw_L := bw_atl (by decide +kernel)
set_option maxRecDepth 100000 in
theorem x_3 : Cond.initialized (bw_exn 3) ∈ bw_L := bw_memT 13 rfl rfl
set_option maxRecDepth 100000 in
theorem at_3 : ∀ w ∈ vx_atS RX5 52 (bw_exn 3) bw_chain, w = .castable (bw_exn 3) (bw_exn 3) ∨ w ∈ bw_dcw ∨ w ∈ bw_L := bw_atl (by decide +kernel)
