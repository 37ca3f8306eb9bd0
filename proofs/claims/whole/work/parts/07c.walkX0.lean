set_option maxHeartbeats 4000000 in
set_option maxRecDepth 100000 in
theorem mX0_projects (l : Launch) (G : va_G) (cy : Nat → ClassId) (g : Nat) (a : Nat → Nat) (tp : bw_A1) (tk : bw_A1) (tl : bw_A1) (ts : bw_A1) (tq : bw_A1) (np : Int32) (nl : Int32) (r : Int32) (h : fX0_projects np = some r) : bw_M l yX0_projects cX0_projects 1 (some .int) 0 0 G cy g [.ref (a 0)] (bw_dW cy a tp tk tl ts tq np nl) (some (.int r)) (bw_dW cy a tp tk tl ts tq np nl) := by
  refine bw_ofW (by decide +kernel) RX0 rfl (Nat.le_of_ble_eq_true rfl) ?_
  intro p e s m below meth c ls S hr hlocks hK hZ hI hl
  have hx := S.1
  have hb := S.2.1
  have hown := S.2.2.2.1
  have hts := S.2.2.2.2
  generalize va_A _ s.heap.size = A at hI hZ ⊢
  generalize hQ : MQ below _ _ s 0 0 A = Q
  have hl : lv_has ls 1 [(0, .ref (a 0))] := hl
  unfold fX0_projects at h
  refine lv_aload_n hx hb dX0_projects_0 rfl (lv_at hl 0 rfl) ?_
  refine bw_get S hK hI 0 5 rfl rfl (by decide) i_X0 f_X0_44 rfl dX0_projects_1 ?_
  exact bw_iretP S hr hlocks h hI rfl dX0_projects_4 hQ
set_option maxHeartbeats 4000000 in
set_option maxRecDepth 100000 in
theorem mX0_addProject (l : Launch) (G : va_G) (cy : Nat → ClassId) (g : Nat) (a : Nat → Nat) (tp : bw_A1) (tk : bw_A1) (tl : bw_A1) (ts : bw_A1) (tq : bw_A1) (np : Int32) (nl : Int32) (p1 : Int32) (p2 : Int32) (r : Int32) (tp' : bw_A1) (np' : Int32) (h : fX0_addProject tp np p1 p2 = some (r, tp', np')) : bw_M l yX0_addProject cX0_addProject 4 (some .int) 1 24 G cy g [.ref (a 0), .int p1, .int p2] (bw_dW cy a tp tk tl ts tq np nl) (some (.int r)) (bw_dW cy a tp' tk tl ts tq np' nl) := by
  refine bw_ofW (by decide +kernel) RX0 rfl (Nat.le_of_ble_eq_true rfl) ?_
  intro p e s m below meth c ls S hr hlocks hK hZ hI hl
  have hx := S.1
  have hb := S.2.1
  have hown := S.2.2.2.1
  have hts := S.2.2.2.2
  generalize va_A _ s.heap.size = A at hI hZ ⊢
  generalize hQ : MQ below _ _ s 0 0 A = Q
  have hl : lv_has ls 4 [(0, .ref (a 0)), (1, .int p1), (2, .int p2)] := hl
  unfold fX0_addProject at h
  refine lv_aload_n hx hb dX0_addProject_0 rfl (lv_at hl 0 rfl) ?_
  refine bw_get S hK hI 0 5 rfl rfl (by decide) i_X0 f_X0_44 rfl dX0_addProject_1 ?_
  refine lv_istore_n (lv' := [(3, .int np), (0, .ref (a 0)), (1, .int p1), (2, .int p2)]) hx hb dX0_addProject_4 rfl hl (by decide) rfl (fun ls hl => ?_)
  refine lv_aload_n hx hb dX0_addProject_5 rfl (lv_at hl 1 rfl) ?_
  refine lv_dup hx hb dX0_addProject_6 rfl ?_
  refine bw_get S hK hI 0 5 rfl rfl (by decide) i_X0 f_X0_44 rfl dX0_addProject_7 ?_
  refine lv_iconst (v := 1) hx hb dX0_addProject_10 rfl ?_
  refine lv_iadd hx hb dX0_addProject_11 ?_
  refine lv_topi (fun np_12 e_12 => ?_)
  have h := bw_let_e h e_12
  clear e_12
  refine bw_put S hK hI 0 5 (ws' := (bw_dW cy a tp tk tl ts tq np_12 nl)) tyX0 tyX0_ok nmX0 rfl rfl (by decide) i_X0 f_X0_44 rfl rfl rfl rfl (Nat.le_of_ble_eq_true rfl) rfl dX0_addProject_12 (fun H locs hI => ?_)
  refine lv_aload_n hx hb dX0_addProject_15 rfl (lv_at hl 1 rfl) ?_
  refine bw_get S hK hI 0 0 rfl rfl (by decide) i_X0 f_X0_14 rfl dX0_addProject_16 ?_
  refine lv_iload_n hx hb dX0_addProject_19 rfl (lv_at hl 0 rfl) ?_
  refine lv_iconst (v := 0) hx hb dX0_addProject_20 rfl ?_
  refine lv_iload_n hx hb dX0_addProject_21 rfl (lv_at hl 2 rfl) ?_
  obtain ⟨tp_22, hc, h⟩ := bw_b1_e h
  refine bw_callV S hK hZ hI (mX3_put l G cy g (a 1) (a 2) 84 14 tp np 0 p1 tp_22 hc) Y_X3_put V_X3_put l_X0_36 ⟨(Nat.le_of_ble_eq_true rfl), (Nat.le_of_ble_eq_true rfl)⟩ (q0 := 0) rfl rfl rfl (ws' := (bw_dW cy a tp_22 tk tl ts tq np_12 nl)) (bw_pd0 cy a tp tk tl ts tq np_12 nl) (bw_pd0 cy a tp_22 tk tl ts tq np_12 nl).symm rfl rfl hl.1 (rest := []) (st1 := []) rfl rfl (Nat.le_of_ble_eq_true rfl) dX0_addProject_22 ⟨(Nat.le_of_ble_eq_true rfl), (Nat.le_of_ble_eq_true rfl)⟩ (fun H locs hI => ?_)
  refine lv_aload_n hx hb dX0_addProject_25 rfl (lv_at hl 1 rfl) ?_
  refine bw_get S hK hI 0 0 rfl rfl (by decide) i_X0 f_X0_14 rfl dX0_addProject_26 ?_
  refine lv_iload_n hx hb dX0_addProject_29 rfl (lv_at hl 0 rfl) ?_
  refine lv_iconst (v := 1) hx hb dX0_addProject_30 rfl ?_
  refine lv_iload_n hx hb dX0_addProject_31 rfl (lv_at hl 3 rfl) ?_
  obtain ⟨tp_32, hc, h⟩ := bw_b1_e h
  refine bw_callV S hK hZ hI (mX3_put l G cy g (a 1) (a 2) 84 14 tp_22 np 1 p2 tp_32 hc) Y_X3_put V_X3_put l_X0_36 ⟨(Nat.le_of_ble_eq_true rfl), (Nat.le_of_ble_eq_true rfl)⟩ (q0 := 0) rfl rfl rfl (ws' := (bw_dW cy a tp_32 tk tl ts tq np_12 nl)) (bw_pd0 cy a tp_22 tk tl ts tq np_12 nl) (bw_pd0 cy a tp_32 tk tl ts tq np_12 nl).symm rfl rfl hl.1 (rest := []) (st1 := []) rfl rfl (Nat.le_of_ble_eq_true rfl) dX0_addProject_32 ⟨(Nat.le_of_ble_eq_true rfl), (Nat.le_of_ble_eq_true rfl)⟩ (fun H locs hI => ?_)
  refine lv_aload_n hx hb dX0_addProject_35 rfl (lv_at hl 1 rfl) ?_
  refine bw_get S hK hI 0 0 rfl rfl (by decide) i_X0 f_X0_14 rfl dX0_addProject_36 ?_
  refine lv_iload_n hx hb dX0_addProject_39 rfl (lv_at hl 0 rfl) ?_
  refine lv_iconst (v := 2) hx hb dX0_addProject_40 rfl ?_
  refine lv_iload_n hx hb dX0_addProject_41 rfl (lv_at hl 3 rfl) ?_
  obtain ⟨tp_42, hc, h⟩ := bw_b1_e h
  refine bw_callV S hK hZ hI (mX3_put l G cy g (a 1) (a 2) 84 14 tp_32 np 2 p2 tp_42 hc) Y_X3_put V_X3_put l_X0_36 ⟨(Nat.le_of_ble_eq_true rfl), (Nat.le_of_ble_eq_true rfl)⟩ (q0 := 0) rfl rfl rfl (ws' := (bw_dW cy a tp_42 tk tl ts tq np_12 nl)) (bw_pd0 cy a tp_32 tk tl ts tq np_12 nl) (bw_pd0 cy a tp_42 tk tl ts tq np_12 nl).symm rfl rfl hl.1 (rest := []) (st1 := []) rfl rfl (Nat.le_of_ble_eq_true rfl) dX0_addProject_42 ⟨(Nat.le_of_ble_eq_true rfl), (Nat.le_of_ble_eq_true rfl)⟩ (fun H locs hI => ?_)
  refine lv_aload_n hx hb dX0_addProject_45 rfl (lv_at hl 1 rfl) ?_
  refine bw_get S hK hI 0 0 rfl rfl (by decide) i_X0 f_X0_14 rfl dX0_addProject_46 ?_
  refine lv_iload_n hx hb dX0_addProject_49 rfl (lv_at hl 0 rfl) ?_
  refine lv_bipush (v := 9) hx hb dX0_addProject_50 (by decide) ?_
  refine lv_iconst (v := 1) hx hb dX0_addProject_52 rfl ?_
  obtain ⟨tp_53, hc, h⟩ := bw_b1_e h
  refine bw_callV S hK hZ hI (mX3_put l G cy g (a 1) (a 2) 84 14 tp_42 np 9 1 tp_53 hc) Y_X3_put V_X3_put l_X0_36 ⟨(Nat.le_of_ble_eq_true rfl), (Nat.le_of_ble_eq_true rfl)⟩ (q0 := 0) rfl rfl rfl (ws' := (bw_dW cy a tp_53 tk tl ts tq np_12 nl)) (bw_pd0 cy a tp_42 tk tl ts tq np_12 nl) (bw_pd0 cy a tp_53 tk tl ts tq np_12 nl).symm rfl rfl hl.1 (rest := []) (st1 := []) rfl rfl (Nat.le_of_ble_eq_true rfl) dX0_addProject_53 ⟨(Nat.le_of_ble_eq_true rfl), (Nat.le_of_ble_eq_true rfl)⟩ (fun H locs hI => ?_)
  refine lv_iload_n hx hb dX0_addProject_56 rfl (lv_at hl 0 rfl) ?_
  exact bw_iret (d := (tp_53, np_12)) (rr := (r, tp', np')) S hr hlocks h (fun q : (bw_A1 × Int32) => (bw_dW cy a q.1 tk tl ts tq q.2 nl)) hI rfl dX0_addProject_57 hQ
set_option maxHeartbeats 4000000 in
set_option maxRecDepth 100000 in
theorem mX0_isOpen (l : Launch) (G : va_G) (cy : Nat → ClassId) (g : Nat) (a : Nat → Nat) (tp : bw_A1) (tk : bw_A1) (tl : bw_A1) (ts : bw_A1) (tq : bw_A1) (np : Int32) (nl : Int32) (p1 : Int32) (r : Int32) (h : fX0_isOpen tp p1 = some r) : bw_M l yX0_isOpen cX0_isOpen 2 (some .boolean) 1 23 G cy g [.ref (a 0), .int p1] (bw_dW cy a tp tk tl ts tq np nl) (some (.int r)) (bw_dW cy a tp tk tl ts tq np nl) := by
  refine bw_ofW (by decide +kernel) RX0 rfl (Nat.le_of_ble_eq_true rfl) ?_
  intro p e s m below meth c ls S hr hlocks hK hZ hI hl
  have hx := S.1
  have hb := S.2.1
  have hown := S.2.2.2.1
  have hts := S.2.2.2.2
  generalize va_A _ s.heap.size = A at hI hZ ⊢
  generalize hQ : MQ below _ _ s 0 0 A = Q
  have hl : lv_has ls 2 [(0, .ref (a 0)), (1, .int p1)] := hl
  unfold fX0_isOpen at h
  refine lv_aload_n hx hb dX0_isOpen_0 rfl (lv_at hl 0 rfl) ?_
  refine bw_get S hK hI 0 0 rfl rfl (by decide) i_X0 f_X0_14 rfl dX0_isOpen_1 ?_
  refine lv_iload_n hx hb dX0_isOpen_4 rfl (lv_at hl 1 rfl) ?_
  refine lv_bipush (v := 9) hx hb dX0_isOpen_5 (by decide) ?_
  obtain ⟨r7, hc, h⟩ := bw_b1_e h
  refine bw_callV S hK hZ hI (mX3_get l G cy g (a 1) (a 2) 84 14 tp p1 9 r7 hc) Y_X3_get V_X3_get l_X0_51 ⟨(Nat.le_of_ble_eq_true rfl), (Nat.le_of_ble_eq_true rfl)⟩ (q0 := 0) rfl rfl rfl (ws' := (bw_dW cy a tp tk tl ts tq np nl)) (bw_pd0 cy a tp tk tl ts tq np nl) (bw_pd0 cy a tp tk tl ts tq np nl).symm rfl rfl hl.1 (rest := []) (st1 := [.int r7]) rfl rfl (Nat.le_of_ble_eq_true rfl) dX0_isOpen_7 ⟨(Nat.le_of_ble_eq_true rfl), (Nat.le_of_ble_eq_true rfl)⟩ (fun H locs hI => ?_)
  refine lv_iconst (v := 1) hx hb dX0_isOpen_10 rfl ?_
  refine lv_icmp_ne (tgt := 18) hx hb dX0_isOpen_11 (by decide) (fun c_11 => ?_) (fun c_11 => ?_)
  · rw [if_neg c_11] at h
    refine lv_iconst (v := 0) hx hb dX0_isOpen_18 rfl ?_
    exact bw_iretP S hr hlocks h hI rfl dX0_isOpen_19 hQ
  rw [if_pos c_11] at h
  refine lv_iconst (v := 1) hx hb dX0_isOpen_14 rfl ?_
  refine lv_goto (tgt := 19) hx hb dX0_isOpen_15 (by decide) ?_
  exact bw_iretP S hr hlocks h hI rfl dX0_isOpen_19 hQ
set_option maxHeartbeats 4000000 in
set_option maxRecDepth 100000 in
theorem mX0_lendableDays (l : Launch) (G : va_G) (cy : Nat → ClassId) (g : Nat) (a : Nat → Nat) (tp : bw_A1) (tk : bw_A1) (tl : bw_A1) (ts : bw_A1) (tq : bw_A1) (np : Int32) (nl : Int32) (p1 : Int32) (p2 : Int32) (r : Int32) (h : fX0_lendableDays tp ts p1 p2 = some r) : bw_M l yX0_lendableDays cX0_lendableDays 4 (some .int) 1 23 G cy g [.ref (a 0), .int p1, .int p2] (bw_dW cy a tp tk tl ts tq np nl) (some (.int r)) (bw_dW cy a tp tk tl ts tq np nl) := by
  refine bw_ofW (by decide +kernel) RX0 rfl (Nat.le_of_ble_eq_true rfl) ?_
  intro p e s m below meth c ls S hr hlocks hK hZ hI hl
  have hx := S.1
  have hb := S.2.1
  have hown := S.2.2.2.1
  have hts := S.2.2.2.2
  generalize va_A _ s.heap.size = A at hI hZ ⊢
  generalize hQ : MQ below _ _ s 0 0 A = Q
  have hl : lv_has ls 4 [(0, .ref (a 0)), (1, .int p1), (2, .int p2)] := hl
  unfold fX0_lendableDays at h
  refine lv_aload_n hx hb dX0_lendableDays_0 rfl (lv_at hl 0 rfl) ?_
  refine bw_get S hK hI 0 0 rfl rfl (by decide) i_X0 f_X0_14 rfl dX0_lendableDays_1 ?_
  refine lv_iload_n hx hb dX0_lendableDays_4 rfl (lv_at hl 1 rfl) ?_
  refine lv_iconst (v := 1) hx hb dX0_lendableDays_5 rfl ?_
  obtain ⟨r6, hc, h⟩ := bw_b1_e h
  refine bw_callV S hK hZ hI (mX3_get l G cy g (a 1) (a 2) 84 14 tp p1 1 r6 hc) Y_X3_get V_X3_get l_X0_51 ⟨(Nat.le_of_ble_eq_true rfl), (Nat.le_of_ble_eq_true rfl)⟩ (q0 := 0) rfl rfl rfl (ws' := (bw_dW cy a tp tk tl ts tq np nl)) (bw_pd0 cy a tp tk tl ts tq np nl) (bw_pd0 cy a tp tk tl ts tq np nl).symm rfl rfl hl.1 (rest := []) (st1 := [.int r6]) rfl rfl (Nat.le_of_ble_eq_true rfl) dX0_lendableDays_6 ⟨(Nat.le_of_ble_eq_true rfl), (Nat.le_of_ble_eq_true rfl)⟩ (fun H locs hI => ?_)
  refine lv_aload_n hx hb dX0_lendableDays_9 rfl (lv_at hl 0 rfl) ?_
  refine bw_get S hK hI 0 3 rfl rfl (by decide) i_X0 f_X0_30 rfl dX0_lendableDays_10 ?_
  refine lv_iconst (v := 0) hx hb dX0_lendableDays_13 rfl ?_
  refine lv_iconst (v := 1) hx hb dX0_lendableDays_14 rfl ?_
  obtain ⟨r15, hc, h⟩ := bw_b1_e h
  refine bw_callV S hK hZ hI (mX3_get l G cy g (a 7) (a 8) 3 3 ts 0 1 r15 hc) Y_X3_get V_X3_get l_X0_51 ⟨(Nat.le_of_ble_eq_true rfl), (Nat.le_of_ble_eq_true rfl)⟩ (q0 := 0) rfl rfl rfl (ws' := (bw_dW cy a tp tk tl ts tq np nl)) (bw_pd3 cy a tp tk tl ts tq np nl) (bw_pd3 cy a tp tk tl ts tq np nl).symm rfl rfl hl.1 (rest := [.int r6]) (st1 := [.int r15, .int r6]) rfl rfl (Nat.le_of_ble_eq_true rfl) dX0_lendableDays_15 ⟨(Nat.le_of_ble_eq_true rfl), (Nat.le_of_ble_eq_true rfl)⟩ (fun H locs hI => ?_)
  refine lv_imul hx hb dX0_lendableDays_18 ?_
  refine lv_bipush (v := 100) hx hb dX0_lendableDays_19 (by decide) ?_
  refine lv_idiv hx hb dX0_lendableDays_21 (by decide) ?_
  refine lv_topi (fun x3_22 e_22 => ?_)
  have h := bw_let_e h e_22
  clear e_22
  refine lv_istore_n (lv' := [(3, .int x3_22), (0, .ref (a 0)), (1, .int p1), (2, .int p2)]) hx hb dX0_lendableDays_22 rfl hl (by decide) rfl (fun ls hl => ?_)
  refine lv_iconst (v := 0) hx hb dX0_lendableDays_23 rfl ?_
  refine lv_aload_n hx hb dX0_lendableDays_24 rfl (lv_at hl 1 rfl) ?_
  refine bw_get S hK hI 0 0 rfl rfl (by decide) i_X0 f_X0_14 rfl dX0_lendableDays_25 ?_
  refine lv_iload_n hx hb dX0_lendableDays_28 rfl (lv_at hl 2 rfl) ?_
  refine lv_iconst (v := 2) hx hb dX0_lendableDays_29 rfl ?_
  obtain ⟨r30, hc, h⟩ := bw_b1_e h
  refine bw_callV S hK hZ hI (mX3_get l G cy g (a 1) (a 2) 84 14 tp p1 2 r30 hc) Y_X3_get V_X3_get l_X0_51 ⟨(Nat.le_of_ble_eq_true rfl), (Nat.le_of_ble_eq_true rfl)⟩ (q0 := 0) rfl rfl rfl (ws' := (bw_dW cy a tp tk tl ts tq np nl)) (bw_pd0 cy a tp tk tl ts tq np nl) (bw_pd0 cy a tp tk tl ts tq np nl).symm rfl rfl hl.1 (rest := [.int 0]) (st1 := [.int r30, .int 0]) rfl rfl (Nat.le_of_ble_eq_true rfl) dX0_lendableDays_30 ⟨(Nat.le_of_ble_eq_true rfl), (Nat.le_of_ble_eq_true rfl)⟩ (fun H locs hI => ?_)
  refine lv_iload_n hx hb dX0_lendableDays_33 rfl (lv_at hl 3 rfl) ?_
  refine lv_isub hx hb dX0_lendableDays_34 ?_
  refine lv_iload_n hx hb dX0_lendableDays_35 rfl (lv_at hl 0 rfl) ?_
  refine lv_isub hx hb dX0_lendableDays_36 ?_
  refine bw_mmax S (rest := []) hl.1 l_X0_68 l_JM_max_s l_JM_i l_JM_max_c (Nat.le_of_ble_eq_true rfl) (Nat.le_of_ble_eq_true rfl) ⟨(Nat.le_of_ble_eq_true rfl), (Nat.le_of_ble_eq_true rfl)⟩ dX0_lendableDays_37 ?_
  exact bw_iretP S hr hlocks h hI rfl dX0_lendableDays_40 hQ
set_option maxHeartbeats 4000000 in
set_option maxRecDepth 100000 in
theorem mX0_projectPart (l : Launch) (G : va_G) (cy : Nat → ClassId) (g : Nat) (a : Nat → Nat) (tp : bw_A1) (tk : bw_A1) (tl : bw_A1) (ts : bw_A1) (tq : bw_A1) (np : Int32) (nl : Int32) (p1 : Int32) (p2 : Int32) (r : Int32) (h : fX0_projectPart tp ts p1 p2 = some r) : bw_M l yX0_projectPart cX0_projectPart 3 (some .int) 2 46 G cy g [.ref (a 0), .int p1, .int p2] (bw_dW cy a tp tk tl ts tq np nl) (some (.int r)) (bw_dW cy a tp tk tl ts tq np nl) := by
  refine bw_ofW (by decide +kernel) RX0 rfl (Nat.le_of_ble_eq_true rfl) ?_
  intro p e s m below meth c ls S hr hlocks hK hZ hI hl
  have hx := S.1
  have hb := S.2.1
  have hown := S.2.2.2.1
  have hts := S.2.2.2.2
  generalize va_A _ s.heap.size = A at hI hZ ⊢
  generalize hQ : MQ below _ _ s 0 0 A = Q
  have hl : lv_has ls 3 [(0, .ref (a 0)), (1, .int p1), (2, .int p2)] := hl
  unfold fX0_projectPart at h
  refine lv_iload_n hx hb dX0_projectPart_0 rfl (lv_at hl 2 rfl) ?_
  refine lv_bipush (v := 14) hx hb dX0_projectPart_1 (by decide) ?_
  refine lv_icmp_eq (tgt := 16) hx hb dX0_projectPart_3 (by decide) (fun c_3 => ?_) (fun c_3 => ?_)
  · rw [if_pos c_3] at h
    refine lv_aload_n hx hb dX0_projectPart_16 rfl (lv_at hl 0 rfl) ?_
    refine lv_iload_n hx hb dX0_projectPart_17 rfl (lv_at hl 1 rfl) ?_
    obtain ⟨r18, hc, h⟩ := bw_b1_e h
    refine bw_callV S hK hZ hI (mX0_isOpen l G cy g a tp tk tl ts tq np nl p1 r18 hc) Y_X0_isOpen V_X0_isOpen l_X0_55 ⟨(Nat.le_of_ble_eq_true rfl), (Nat.le_of_ble_eq_true rfl)⟩ (q0 := 0) rfl rfl rfl (ws' := (bw_dW cy a tp tk tl ts tq np nl)) (bw_pS _) (bw_pS' _) rfl rfl hl.1 (rest := []) (st1 := [.int r18]) rfl rfl (Nat.le_of_ble_eq_true rfl) dX0_projectPart_18 ⟨(Nat.le_of_ble_eq_true rfl), (Nat.le_of_ble_eq_true rfl)⟩ (fun H locs hI => ?_)
    refine lv_if_eq (tgt := 33) hx hb dX0_projectPart_21 (by decide) (fun c_21 => ?_) (fun c_21 => ?_)
    · rw [if_pos c_21] at h
      refine lv_iconst (v := 0) hx hb dX0_projectPart_33 rfl ?_
      exact bw_iretP S hr hlocks h hI rfl dX0_projectPart_34 hQ
    rw [if_neg c_21] at h
    refine lv_aload_n hx hb dX0_projectPart_24 rfl (lv_at hl 0 rfl) ?_
    refine lv_iload_n hx hb dX0_projectPart_25 rfl (lv_at hl 1 rfl) ?_
    refine lv_iconst (v := 0) hx hb dX0_projectPart_26 rfl ?_
    obtain ⟨r27, hc, h⟩ := bw_b1_e h
    refine bw_callV S hK hZ hI (mX0_lendableDays l G cy g a tp tk tl ts tq np nl p1 0 r27 hc) Y_X0_lendableDays V_X0_lendableDays l_X0_59 ⟨(Nat.le_of_ble_eq_true rfl), (Nat.le_of_ble_eq_true rfl)⟩ (q0 := 0) rfl rfl rfl (ws' := (bw_dW cy a tp tk tl ts tq np nl)) (bw_pS _) (bw_pS' _) rfl rfl hl.1 (rest := []) (st1 := [.int r27]) rfl rfl (Nat.le_of_ble_eq_true rfl) dX0_projectPart_27 ⟨(Nat.le_of_ble_eq_true rfl), (Nat.le_of_ble_eq_true rfl)⟩ (fun H locs hI => ?_)
    refine lv_goto (tgt := 34) hx hb dX0_projectPart_30 (by decide) ?_
    exact bw_iretP S hr hlocks h hI rfl dX0_projectPart_34 hQ
  rw [if_neg c_3] at h
  refine lv_aload_n hx hb dX0_projectPart_6 rfl (lv_at hl 0 rfl) ?_
  refine bw_get S hK hI 0 0 rfl rfl (by decide) i_X0 f_X0_14 rfl dX0_projectPart_7 ?_
  refine lv_iload_n hx hb dX0_projectPart_10 rfl (lv_at hl 1 rfl) ?_
  refine lv_iload_n hx hb dX0_projectPart_11 rfl (lv_at hl 2 rfl) ?_
  obtain ⟨r12, hc, h⟩ := bw_b1_e h
  refine bw_callV S hK hZ hI (mX3_get l G cy g (a 1) (a 2) 84 14 tp p1 p2 r12 hc) Y_X3_get V_X3_get l_X0_51 ⟨(Nat.le_of_ble_eq_true rfl), (Nat.le_of_ble_eq_true rfl)⟩ (q0 := 0) rfl rfl rfl (ws' := (bw_dW cy a tp tk tl ts tq np nl)) (bw_pd0 cy a tp tk tl ts tq np nl) (bw_pd0 cy a tp tk tl ts tq np nl).symm rfl rfl hl.1 (rest := []) (st1 := [.int r12]) rfl rfl (Nat.le_of_ble_eq_true rfl) dX0_projectPart_12 ⟨(Nat.le_of_ble_eq_true rfl), (Nat.le_of_ble_eq_true rfl)⟩ (fun H locs hI => ?_)
  exact bw_iretP S hr hlocks h hI rfl dX0_projectPart_15 hQ
set_option maxHeartbeats 4000000 in
set_option maxRecDepth 100000 in
theorem mX0_rowOfTask (l : Launch) (G : va_G) (cy : Nat → ClassId) (g : Nat) (p0 : Int32) (p1 : Int32) (r : Int32) (h : fX0_rowOfTask p0 p1 = some r) : bw_M l yX0_rowOfTask cX0_rowOfTask 2 (some .int) 0 0 G cy g [.int p0, .int p1] [] (some (.int r)) [] := by
  refine bw_ofW (by decide +kernel) RX0 rfl (Nat.le_of_ble_eq_true rfl) ?_
  intro p e s m below meth c ls S hr hlocks hK hZ hI hl
  have hx := S.1
  have hb := S.2.1
  have hown := S.2.2.2.1
  have hts := S.2.2.2.2
  generalize va_A _ s.heap.size = A at hI hZ ⊢
  generalize hQ : MQ below _ _ s 0 0 A = Q
  have hl : lv_has ls 2 [(0, .int p0), (1, .int p1)] := hl
  unfold fX0_rowOfTask at h
  refine lv_iload_n hx hb dX0_rowOfTask_0 rfl (lv_at hl 0 rfl) ?_
  refine lv_bipush (v := 8) hx hb dX0_rowOfTask_1 (by decide) ?_
  refine lv_imul hx hb dX0_rowOfTask_3 ?_
  refine lv_iload_n hx hb dX0_rowOfTask_4 rfl (lv_at hl 1 rfl) ?_
  refine lv_iadd hx hb dX0_rowOfTask_5 ?_
  exact bw_iretP S hr hlocks h hI rfl dX0_rowOfTask_6 hQ
set_option maxHeartbeats 4000000 in
set_option maxRecDepth 100000 in
theorem mX0_addTask (l : Launch) (G : va_G) (cy : Nat → ClassId) (g : Nat) (a : Nat → Nat) (tp : bw_A1) (tk : bw_A1) (tl : bw_A1) (ts : bw_A1) (tq : bw_A1) (np : Int32) (nl : Int32) (p1 : Int32) (p2 : Int32) (r : Int32) (tp' : bw_A1) (tk' : bw_A1) (h : fX0_addTask tp tk p1 p2 = some (r, tp', tk')) : bw_M l yX0_addTask cX0_addTask 5 (some .int) 1 24 G cy g [.ref (a 0), .int p1, .int p2] (bw_dW cy a tp tk tl ts tq np nl) (some (.int r)) (bw_dW cy a tp' tk' tl ts tq np nl) := by
  refine bw_ofW (by decide +kernel) RX0 rfl (Nat.le_of_ble_eq_true rfl) ?_
  intro p e s m below meth c ls S hr hlocks hK hZ hI hl
  have hx := S.1
  have hb := S.2.1
  have hown := S.2.2.2.1
  have hts := S.2.2.2.2
  generalize va_A _ s.heap.size = A at hI hZ ⊢
  generalize hQ : MQ below _ _ s 0 0 A = Q
  have hl : lv_has ls 5 [(0, .ref (a 0)), (1, .int p1), (2, .int p2)] := hl
  unfold fX0_addTask at h
  refine lv_aload_n hx hb dX0_addTask_0 rfl (lv_at hl 0 rfl) ?_
  refine bw_get S hK hI 0 0 rfl rfl (by decide) i_X0 f_X0_14 rfl dX0_addTask_1 ?_
  refine lv_iload_n hx hb dX0_addTask_4 rfl (lv_at hl 1 rfl) ?_
  refine lv_bipush (v := 7) hx hb dX0_addTask_5 (by decide) ?_
  obtain ⟨r7, hc, h⟩ := bw_b1_e h
  refine bw_callV S hK hZ hI (mX3_get l G cy g (a 1) (a 2) 84 14 tp p1 7 r7 hc) Y_X3_get V_X3_get l_X0_51 ⟨(Nat.le_of_ble_eq_true rfl), (Nat.le_of_ble_eq_true rfl)⟩ (q0 := 0) rfl rfl rfl (ws' := (bw_dW cy a tp tk tl ts tq np nl)) (bw_pd0 cy a tp tk tl ts tq np nl) (bw_pd0 cy a tp tk tl ts tq np nl).symm rfl rfl hl.1 (rest := []) (st1 := [.int r7]) rfl rfl (Nat.le_of_ble_eq_true rfl) dX0_addTask_7 ⟨(Nat.le_of_ble_eq_true rfl), (Nat.le_of_ble_eq_true rfl)⟩ (fun H locs hI => ?_)
  refine lv_istore_n (lv' := [(3, .int r7), (0, .ref (a 0)), (1, .int p1), (2, .int p2)]) hx hb dX0_addTask_10 rfl hl (by decide) rfl (fun ls hl => ?_)
  refine lv_iload_n hx hb dX0_addTask_11 rfl (lv_at hl 2 rfl) ?_
  refine lv_iload_n hx hb dX0_addTask_12 rfl (lv_at hl 0 rfl) ?_
  obtain ⟨r13, hc, h⟩ := bw_b1_e h
  refine bw_callP S hK hZ hI (mX0_rowOfTask l G cy g p1 r7 r13 hc) Y_X0_rowOfTask V_X0_rowOfTask l_X0_62 ⟨(Nat.le_of_ble_eq_true rfl), (Nat.le_of_ble_eq_true rfl)⟩ (rest := []) (st1 := [.int r13]) rfl hl.1 rfl rfl (Nat.le_of_ble_eq_true rfl) dX0_addTask_13 ⟨(Nat.le_of_ble_eq_true rfl), (Nat.le_of_ble_eq_true rfl)⟩ (fun H locs hI => ?_)
  refine lv_istore (lv' := [(4, .int r13), (3, .int r7), (0, .ref (a 0)), (1, .int p1), (2, .int p2)]) hx hb dX0_addTask_16 hl (by decide) rfl (fun ls hl => ?_)
  refine lv_aload_n hx hb dX0_addTask_18 rfl (lv_at hl 2 rfl) ?_
  refine bw_get S hK hI 0 1 rfl rfl (by decide) i_X0 f_X0_20 rfl dX0_addTask_19 ?_
  refine lv_iload hx hb dX0_addTask_22 (lv_at hl 0 rfl) ?_
  refine lv_iconst (v := 0) hx hb dX0_addTask_24 rfl ?_
  refine lv_iload_n hx hb dX0_addTask_25 rfl (lv_at hl 4 rfl) ?_
  obtain ⟨tk_26, hc, h⟩ := bw_b1_e h
  refine bw_callV S hK hZ hI (mX3_put l G cy g (a 3) (a 4) 288 6 tk r13 0 p2 tk_26 hc) Y_X3_put V_X3_put l_X0_36 ⟨(Nat.le_of_ble_eq_true rfl), (Nat.le_of_ble_eq_true rfl)⟩ (q0 := 0) rfl rfl rfl (ws' := (bw_dW cy a tp tk_26 tl ts tq np nl)) (bw_pd1 cy a tp tk tl ts tq np nl) (bw_pd1 cy a tp tk_26 tl ts tq np nl).symm rfl rfl hl.1 (rest := []) (st1 := []) rfl rfl (Nat.le_of_ble_eq_true rfl) dX0_addTask_26 ⟨(Nat.le_of_ble_eq_true rfl), (Nat.le_of_ble_eq_true rfl)⟩ (fun H locs hI => ?_)
  refine lv_aload_n hx hb dX0_addTask_29 rfl (lv_at hl 2 rfl) ?_
  refine bw_get S hK hI 0 1 rfl rfl (by decide) i_X0 f_X0_20 rfl dX0_addTask_30 ?_
  refine lv_iload hx hb dX0_addTask_33 (lv_at hl 0 rfl) ?_
  refine lv_iconst (v := 1) hx hb dX0_addTask_35 rfl ?_
  refine lv_iconst (v := (-1)) hx hb dX0_addTask_36 rfl ?_
  obtain ⟨tk_37, hc, h⟩ := bw_b1_e h
  refine bw_callV S hK hZ hI (mX3_put l G cy g (a 3) (a 4) 288 6 tk_26 r13 1 (-1) tk_37 hc) Y_X3_put V_X3_put l_X0_36 ⟨(Nat.le_of_ble_eq_true rfl), (Nat.le_of_ble_eq_true rfl)⟩ (q0 := 0) rfl rfl rfl (ws' := (bw_dW cy a tp tk_37 tl ts tq np nl)) (bw_pd1 cy a tp tk_26 tl ts tq np nl) (bw_pd1 cy a tp tk_37 tl ts tq np nl).symm rfl rfl hl.1 (rest := []) (st1 := []) rfl rfl (Nat.le_of_ble_eq_true rfl) dX0_addTask_37 ⟨(Nat.le_of_ble_eq_true rfl), (Nat.le_of_ble_eq_true rfl)⟩ (fun H locs hI => ?_)
  refine lv_aload_n hx hb dX0_addTask_40 rfl (lv_at hl 2 rfl) ?_
  refine bw_get S hK hI 0 0 rfl rfl (by decide) i_X0 f_X0_14 rfl dX0_addTask_41 ?_
  refine lv_iload_n hx hb dX0_addTask_44 rfl (lv_at hl 3 rfl) ?_
  refine lv_bipush (v := 7) hx hb dX0_addTask_45 (by decide) ?_
  refine lv_iconst (v := 1) hx hb dX0_addTask_47 rfl ?_
  obtain ⟨tp_48, hc, h⟩ := bw_b1_e h
  refine bw_callV S hK hZ hI (mX3_increase l G cy g (a 1) (a 2) 84 14 tp p1 7 1 tp_48 hc) Y_X3_increase V_X3_increase l_X0_65 ⟨(Nat.le_of_ble_eq_true rfl), (Nat.le_of_ble_eq_true rfl)⟩ (q0 := 0) rfl rfl rfl (ws' := (bw_dW cy a tp_48 tk_37 tl ts tq np nl)) (bw_pd0 cy a tp tk_37 tl ts tq np nl) (bw_pd0 cy a tp_48 tk_37 tl ts tq np nl).symm rfl rfl hl.1 (rest := []) (st1 := []) rfl rfl (Nat.le_of_ble_eq_true rfl) dX0_addTask_48 ⟨(Nat.le_of_ble_eq_true rfl), (Nat.le_of_ble_eq_true rfl)⟩ (fun H locs hI => ?_)
  refine lv_aload_n hx hb dX0_addTask_51 rfl (lv_at hl 2 rfl) ?_
  refine bw_get S hK hI 0 0 rfl rfl (by decide) i_X0 f_X0_14 rfl dX0_addTask_52 ?_
  refine lv_iload_n hx hb dX0_addTask_55 rfl (lv_at hl 3 rfl) ?_
  refine lv_bipush (v := 12) hx hb dX0_addTask_56 (by decide) ?_
  refine lv_iload_n hx hb dX0_addTask_58 rfl (lv_at hl 4 rfl) ?_
  obtain ⟨tp_59, hc, h⟩ := bw_b1_e h
  refine bw_callV S hK hZ hI (mX3_increase l G cy g (a 1) (a 2) 84 14 tp_48 p1 12 p2 tp_59 hc) Y_X3_increase V_X3_increase l_X0_65 ⟨(Nat.le_of_ble_eq_true rfl), (Nat.le_of_ble_eq_true rfl)⟩ (q0 := 0) rfl rfl rfl (ws' := (bw_dW cy a tp_59 tk_37 tl ts tq np nl)) (bw_pd0 cy a tp_48 tk_37 tl ts tq np nl) (bw_pd0 cy a tp_59 tk_37 tl ts tq np nl).symm rfl rfl hl.1 (rest := []) (st1 := []) rfl rfl (Nat.le_of_ble_eq_true rfl) dX0_addTask_59 ⟨(Nat.le_of_ble_eq_true rfl), (Nat.le_of_ble_eq_true rfl)⟩ (fun H locs hI => ?_)
  refine lv_iload_n hx hb dX0_addTask_62 rfl (lv_at hl 1 rfl) ?_
  exact bw_iret (d := (tp_59, tk_37)) (rr := (r, tp', tk')) S hr hlocks h (fun q : (bw_A1 × bw_A1) => (bw_dW cy a q.1 q.2 tl ts tq np nl)) hI rfl dX0_addTask_63 hQ
set_option maxHeartbeats 4000000 in
set_option maxRecDepth 100000 in
theorem mX0_changeRank (l : Launch) (G : va_G) (cy : Nat → ClassId) (g : Nat) (a : Nat → Nat) (tp : bw_A1) (tk : bw_A1) (tl : bw_A1) (ts : bw_A1) (tq : bw_A1) (np : Int32) (nl : Int32) (p1 : Int32) (p2 : Int32) (r : Int32) (tp' : bw_A1) (h : fX0_changeRank tp p1 p2 = some (r, tp')) : bw_M l yX0_changeRank cX0_changeRank 4 (some .int) 1 24 G cy g [.ref (a 0), .int p1, .int p2] (bw_dW cy a tp tk tl ts tq np nl) (some (.int r)) (bw_dW cy a tp' tk tl ts tq np nl) := by
  refine bw_ofW (by decide +kernel) RX0 rfl (Nat.le_of_ble_eq_true rfl) ?_
  intro p e s m below meth c ls S hr hlocks hK hZ hI hl
  have hx := S.1
  have hb := S.2.1
  have hown := S.2.2.2.1
  have hts := S.2.2.2.2
  generalize va_A _ s.heap.size = A at hI hZ ⊢
  generalize hQ : MQ below _ _ s 0 0 A = Q
  have hl : lv_has ls 4 [(0, .ref (a 0)), (1, .int p1), (2, .int p2)] := hl
  unfold fX0_changeRank at h
  refine lv_aload_n hx hb dX0_changeRank_0 rfl (lv_at hl 0 rfl) ?_
  refine bw_get S hK hI 0 0 rfl rfl (by decide) i_X0 f_X0_14 rfl dX0_changeRank_1 ?_
  refine lv_iload_n hx hb dX0_changeRank_4 rfl (lv_at hl 1 rfl) ?_
  refine lv_iconst (v := 0) hx hb dX0_changeRank_5 rfl ?_
  obtain ⟨r6, hc, h⟩ := bw_b1_e h
  refine bw_callV S hK hZ hI (mX3_get l G cy g (a 1) (a 2) 84 14 tp p1 0 r6 hc) Y_X3_get V_X3_get l_X0_51 ⟨(Nat.le_of_ble_eq_true rfl), (Nat.le_of_ble_eq_true rfl)⟩ (q0 := 0) rfl rfl rfl (ws' := (bw_dW cy a tp tk tl ts tq np nl)) (bw_pd0 cy a tp tk tl ts tq np nl) (bw_pd0 cy a tp tk tl ts tq np nl).symm rfl rfl hl.1 (rest := []) (st1 := [.int r6]) rfl rfl (Nat.le_of_ble_eq_true rfl) dX0_changeRank_6 ⟨(Nat.le_of_ble_eq_true rfl), (Nat.le_of_ble_eq_true rfl)⟩ (fun H locs hI => ?_)
  refine lv_istore_n (lv' := [(3, .int r6), (0, .ref (a 0)), (1, .int p1), (2, .int p2)]) hx hb dX0_changeRank_9 rfl hl (by decide) rfl (fun ls hl => ?_)
  refine lv_aload_n hx hb dX0_changeRank_10 rfl (lv_at hl 1 rfl) ?_
  refine bw_get S hK hI 0 0 rfl rfl (by decide) i_X0 f_X0_14 rfl dX0_changeRank_11 ?_
  refine lv_iload_n hx hb dX0_changeRank_14 rfl (lv_at hl 2 rfl) ?_
  refine lv_iconst (v := 0) hx hb dX0_changeRank_15 rfl ?_
  refine lv_iload_n hx hb dX0_changeRank_16 rfl (lv_at hl 3 rfl) ?_
  obtain ⟨tp_17, hc, h⟩ := bw_b1_e h
  refine bw_callV S hK hZ hI (mX3_put l G cy g (a 1) (a 2) 84 14 tp p1 0 p2 tp_17 hc) Y_X3_put V_X3_put l_X0_36 ⟨(Nat.le_of_ble_eq_true rfl), (Nat.le_of_ble_eq_true rfl)⟩ (q0 := 0) rfl rfl rfl (ws' := (bw_dW cy a tp_17 tk tl ts tq np nl)) (bw_pd0 cy a tp tk tl ts tq np nl) (bw_pd0 cy a tp_17 tk tl ts tq np nl).symm rfl rfl hl.1 (rest := []) (st1 := []) rfl rfl (Nat.le_of_ble_eq_true rfl) dX0_changeRank_17 ⟨(Nat.le_of_ble_eq_true rfl), (Nat.le_of_ble_eq_true rfl)⟩ (fun H locs hI => ?_)
  refine lv_iload_n hx hb dX0_changeRank_20 rfl (lv_at hl 0 rfl) ?_
  exact bw_iret (d := tp_17) (rr := (r, tp')) S hr hlocks h (fun q : bw_A1 => (bw_dW cy a q tk tl ts tq np nl)) hI rfl dX0_changeRank_21 hQ
set_option maxHeartbeats 4000000 in
set_option maxRecDepth 100000 in
theorem mX0_changeSetting (l : Launch) (G : va_G) (cy : Nat → ClassId) (g : Nat) (a : Nat → Nat) (tp : bw_A1) (tk : bw_A1) (tl : bw_A1) (ts : bw_A1) (tq : bw_A1) (np : Int32) (nl : Int32) (p1 : Int32) (p2 : Int32) (r : Int32) (ts' : bw_A1) (h : fX0_changeSetting ts p1 p2 = some (r, ts')) : bw_M l yX0_changeSetting cX0_changeSetting 4 (some .int) 1 24 G cy g [.ref (a 0), .int p1, .int p2] (bw_dW cy a tp tk tl ts tq np nl) (some (.int r)) (bw_dW cy a tp tk tl ts' tq np nl) := by
  refine bw_ofW (by decide +kernel) RX0 rfl (Nat.le_of_ble_eq_true rfl) ?_
  intro p e s m below meth c ls S hr hlocks hK hZ hI hl
  have hx := S.1
  have hb := S.2.1
  have hown := S.2.2.2.1
  have hts := S.2.2.2.2
  generalize va_A _ s.heap.size = A at hI hZ ⊢
  generalize hQ : MQ below _ _ s 0 0 A = Q
  have hl : lv_has ls 4 [(0, .ref (a 0)), (1, .int p1), (2, .int p2)] := hl
  unfold fX0_changeSetting at h
  refine lv_aload_n hx hb dX0_changeSetting_0 rfl (lv_at hl 0 rfl) ?_
  refine bw_get S hK hI 0 3 rfl rfl (by decide) i_X0 f_X0_30 rfl dX0_changeSetting_1 ?_
  refine lv_iconst (v := 0) hx hb dX0_changeSetting_4 rfl ?_
  refine lv_iload_n hx hb dX0_changeSetting_5 rfl (lv_at hl 1 rfl) ?_
  obtain ⟨r6, hc, h⟩ := bw_b1_e h
  refine bw_callV S hK hZ hI (mX3_get l G cy g (a 7) (a 8) 3 3 ts 0 p1 r6 hc) Y_X3_get V_X3_get l_X0_51 ⟨(Nat.le_of_ble_eq_true rfl), (Nat.le_of_ble_eq_true rfl)⟩ (q0 := 0) rfl rfl rfl (ws' := (bw_dW cy a tp tk tl ts tq np nl)) (bw_pd3 cy a tp tk tl ts tq np nl) (bw_pd3 cy a tp tk tl ts tq np nl).symm rfl rfl hl.1 (rest := []) (st1 := [.int r6]) rfl rfl (Nat.le_of_ble_eq_true rfl) dX0_changeSetting_6 ⟨(Nat.le_of_ble_eq_true rfl), (Nat.le_of_ble_eq_true rfl)⟩ (fun H locs hI => ?_)
  refine lv_istore_n (lv' := [(3, .int r6), (0, .ref (a 0)), (1, .int p1), (2, .int p2)]) hx hb dX0_changeSetting_9 rfl hl (by decide) rfl (fun ls hl => ?_)
  refine lv_aload_n hx hb dX0_changeSetting_10 rfl (lv_at hl 1 rfl) ?_
  refine bw_get S hK hI 0 3 rfl rfl (by decide) i_X0 f_X0_30 rfl dX0_changeSetting_11 ?_
  refine lv_iconst (v := 0) hx hb dX0_changeSetting_14 rfl ?_
  refine lv_iload_n hx hb dX0_changeSetting_15 rfl (lv_at hl 2 rfl) ?_
  refine lv_iload_n hx hb dX0_changeSetting_16 rfl (lv_at hl 3 rfl) ?_
  obtain ⟨ts_17, hc, h⟩ := bw_b1_e h
  refine bw_callV S hK hZ hI (mX3_put l G cy g (a 7) (a 8) 3 3 ts 0 p1 p2 ts_17 hc) Y_X3_put V_X3_put l_X0_36 ⟨(Nat.le_of_ble_eq_true rfl), (Nat.le_of_ble_eq_true rfl)⟩ (q0 := 0) rfl rfl rfl (ws' := (bw_dW cy a tp tk tl ts_17 tq np nl)) (bw_pd3 cy a tp tk tl ts tq np nl) (bw_pd3 cy a tp tk tl ts_17 tq np nl).symm rfl rfl hl.1 (rest := []) (st1 := []) rfl rfl (Nat.le_of_ble_eq_true rfl) dX0_changeSetting_17 ⟨(Nat.le_of_ble_eq_true rfl), (Nat.le_of_ble_eq_true rfl)⟩ (fun H locs hI => ?_)
  refine lv_iload_n hx hb dX0_changeSetting_20 rfl (lv_at hl 0 rfl) ?_
  exact bw_iret (d := ts_17) (rr := (r, ts')) S hr hlocks h (fun q : bw_A1 => (bw_dW cy a tp tk tl q tq np nl)) hI rfl dX0_changeSetting_21 hQ
set_option maxHeartbeats 4000000 in
set_option maxRecDepth 100000 in
theorem mX0_hasNextTask (l : Launch) (G : va_G) (cy : Nat → ClassId) (g : Nat) (a : Nat → Nat) (tp : bw_A1) (tk : bw_A1) (tl : bw_A1) (ts : bw_A1) (tq : bw_A1) (np : Int32) (nl : Int32) (p1 : Int32) (r : Int32) (h : fX0_hasNextTask tp p1 = some r) : bw_M l yX0_hasNextTask cX0_hasNextTask 2 (some .boolean) 2 44 G cy g [.ref (a 0), .int p1] (bw_dW cy a tp tk tl ts tq np nl) (some (.int r)) (bw_dW cy a tp tk tl ts tq np nl) := by
  refine bw_ofW (by decide +kernel) RX0 rfl (Nat.le_of_ble_eq_true rfl) ?_
  intro p e s m below meth c ls S hr hlocks hK hZ hI hl
  have hx := S.1
  have hb := S.2.1
  have hown := S.2.2.2.1
  have hts := S.2.2.2.2
  generalize va_A _ s.heap.size = A at hI hZ ⊢
  generalize hQ : MQ below _ _ s 0 0 A = Q
  have hl : lv_has ls 2 [(0, .ref (a 0)), (1, .int p1)] := hl
  have j35 : ∀  (H : Heap) (locs : List Loc) (ls : Array Slot), jX0_hasNextTask_35 tp = some r → bw_I G A s.heap (bw_dW cy a tp tk tl ts tq np nl) H locs → lv_has ls 2 [] → W p l e (bw_rm 2 44) s m [.ref (a 0), .int p1].toArray below meth c H locs 0 0 Q (F0 m 35 ls []) := by
    intro  H locs ls h hI hl
    unfold jX0_hasNextTask_35 at h
    refine lv_iconst (v := 0) hx hb dX0_hasNextTask_35 rfl ?_
    exact bw_iretP S hr hlocks h hI rfl dX0_hasNextTask_36 hQ
  unfold fX0_hasNextTask at h
  refine lv_aload_n hx hb dX0_hasNextTask_0 rfl (lv_at hl 0 rfl) ?_
  refine lv_iload_n hx hb dX0_hasNextTask_1 rfl (lv_at hl 1 rfl) ?_
  obtain ⟨r2, hc, h⟩ := bw_b1_e h
  refine bw_callV S hK hZ hI (mX0_isOpen l G cy g a tp tk tl ts tq np nl p1 r2 hc) Y_X0_isOpen V_X0_isOpen l_X0_55 ⟨(Nat.le_of_ble_eq_true rfl), (Nat.le_of_ble_eq_true rfl)⟩ (q0 := 0) rfl rfl rfl (ws' := (bw_dW cy a tp tk tl ts tq np nl)) (bw_pS _) (bw_pS' _) rfl rfl hl.1 (rest := []) (st1 := [.int r2]) rfl rfl (Nat.le_of_ble_eq_true rfl) dX0_hasNextTask_2 ⟨(Nat.le_of_ble_eq_true rfl), (Nat.le_of_ble_eq_true rfl)⟩ (fun H locs hI => ?_)
  refine lv_if_eq (tgt := 35) hx hb dX0_hasNextTask_5 (by decide) (fun c_5 => ?_) (fun c_5 => ?_)
  · rw [if_pos c_5] at h
    exact j35  _ _ _ h hI (lv_sub hl [] rfl)
  rw [if_neg c_5] at h
  refine lv_aload_n hx hb dX0_hasNextTask_8 rfl (lv_at hl 0 rfl) ?_
  refine bw_get S hK hI 0 0 rfl rfl (by decide) i_X0 f_X0_14 rfl dX0_hasNextTask_9 ?_
  refine lv_iload_n hx hb dX0_hasNextTask_12 rfl (lv_at hl 1 rfl) ?_
  refine lv_bipush (v := 8) hx hb dX0_hasNextTask_13 (by decide) ?_
  obtain ⟨r15, hc, h⟩ := bw_b1_e h
  refine bw_callV S hK hZ hI (mX3_get l G cy g (a 1) (a 2) 84 14 tp p1 8 r15 hc) Y_X3_get V_X3_get l_X0_51 ⟨(Nat.le_of_ble_eq_true rfl), (Nat.le_of_ble_eq_true rfl)⟩ (q0 := 0) rfl rfl rfl (ws' := (bw_dW cy a tp tk tl ts tq np nl)) (bw_pd0 cy a tp tk tl ts tq np nl) (bw_pd0 cy a tp tk tl ts tq np nl).symm rfl rfl hl.1 (rest := []) (st1 := [.int r15]) rfl rfl (Nat.le_of_ble_eq_true rfl) dX0_hasNextTask_15 ⟨(Nat.le_of_ble_eq_true rfl), (Nat.le_of_ble_eq_true rfl)⟩ (fun H locs hI => ?_)
  refine lv_aload_n hx hb dX0_hasNextTask_18 rfl (lv_at hl 0 rfl) ?_
  refine bw_get S hK hI 0 0 rfl rfl (by decide) i_X0 f_X0_14 rfl dX0_hasNextTask_19 ?_
  refine lv_iload_n hx hb dX0_hasNextTask_22 rfl (lv_at hl 1 rfl) ?_
  refine lv_bipush (v := 7) hx hb dX0_hasNextTask_23 (by decide) ?_
  obtain ⟨r25, hc, h⟩ := bw_b1_e h
  refine bw_callV S hK hZ hI (mX3_get l G cy g (a 1) (a 2) 84 14 tp p1 7 r25 hc) Y_X3_get V_X3_get l_X0_51 ⟨(Nat.le_of_ble_eq_true rfl), (Nat.le_of_ble_eq_true rfl)⟩ (q0 := 0) rfl rfl rfl (ws' := (bw_dW cy a tp tk tl ts tq np nl)) (bw_pd0 cy a tp tk tl ts tq np nl) (bw_pd0 cy a tp tk tl ts tq np nl).symm rfl rfl hl.1 (rest := [.int r15]) (st1 := [.int r25, .int r15]) rfl rfl (Nat.le_of_ble_eq_true rfl) dX0_hasNextTask_25 ⟨(Nat.le_of_ble_eq_true rfl), (Nat.le_of_ble_eq_true rfl)⟩ (fun H locs hI => ?_)
  refine lv_icmp_ge (tgt := 35) hx hb dX0_hasNextTask_28 (by decide) (fun c_28 => ?_) (fun c_28 => ?_)
  · rw [if_pos c_28] at h
    exact j35  _ _ _ h hI (lv_sub hl [] rfl)
  rw [if_neg c_28] at h
  refine lv_iconst (v := 1) hx hb dX0_hasNextTask_31 rfl ?_
  refine lv_goto (tgt := 36) hx hb dX0_hasNextTask_32 (by decide) ?_
  exact bw_iretP S hr hlocks h hI rfl dX0_hasNextTask_36 hQ
set_option maxHeartbeats 4000000 in
set_option maxRecDepth 100000 in
theorem mX0_useDays (l : Launch) (G : va_G) (cy : Nat → ClassId) (g : Nat) (a : Nat → Nat) (tp : bw_A1) (tk : bw_A1) (tl : bw_A1) (ts : bw_A1) (tq : bw_A1) (np : Int32) (nl : Int32) (p1 : Int32) (p2 : Int32) (tp' : bw_A1) (h : fX0_useDays tp p1 p2 = some tp') : bw_M l yX0_useDays cX0_useDays 3 none 1 24 G cy g [.ref (a 0), .int p1, .int p2] (bw_dW cy a tp tk tl ts tq np nl) none (bw_dW cy a tp' tk tl ts tq np nl) := by
  refine bw_ofW (by decide +kernel) RX0 rfl (Nat.le_of_ble_eq_true rfl) ?_
  intro p e s m below meth c ls S hr hlocks hK hZ hI hl
  have hx := S.1
  have hb := S.2.1
  have hown := S.2.2.2.1
  have hts := S.2.2.2.2
  generalize va_A _ s.heap.size = A at hI hZ ⊢
  generalize hQ : MQ below _ _ s 0 0 A = Q
  have hl : lv_has ls 3 [(0, .ref (a 0)), (1, .int p1), (2, .int p2)] := hl
  unfold fX0_useDays at h
  refine lv_aload_n hx hb dX0_useDays_0 rfl (lv_at hl 0 rfl) ?_
  refine bw_get S hK hI 0 0 rfl rfl (by decide) i_X0 f_X0_14 rfl dX0_useDays_1 ?_
  refine lv_iload_n hx hb dX0_useDays_4 rfl (lv_at hl 1 rfl) ?_
  refine lv_iconst (v := 2) hx hb dX0_useDays_5 rfl ?_
  refine lv_iload_n hx hb dX0_useDays_6 rfl (lv_at hl 2 rfl) ?_
  refine lv_ineg hx hb dX0_useDays_7 ?_
  obtain ⟨tp_8, hc, h⟩ := bw_b1_e h
  refine bw_callV S hK hZ hI (mX3_increase l G cy g (a 1) (a 2) 84 14 tp p1 2 (-p2) tp_8 hc) Y_X3_increase V_X3_increase l_X0_65 ⟨(Nat.le_of_ble_eq_true rfl), (Nat.le_of_ble_eq_true rfl)⟩ (q0 := 0) rfl rfl rfl (ws' := (bw_dW cy a tp_8 tk tl ts tq np nl)) (bw_pd0 cy a tp tk tl ts tq np nl) (bw_pd0 cy a tp_8 tk tl ts tq np nl).symm rfl rfl hl.1 (rest := []) (st1 := []) rfl rfl (Nat.le_of_ble_eq_true rfl) dX0_useDays_8 ⟨(Nat.le_of_ble_eq_true rfl), (Nat.le_of_ble_eq_true rfl)⟩ (fun H locs hI => ?_)
  refine lv_aload_n hx hb dX0_useDays_11 rfl (lv_at hl 0 rfl) ?_
  refine bw_get S hK hI 0 0 rfl rfl (by decide) i_X0 f_X0_14 rfl dX0_useDays_12 ?_
  refine lv_iload_n hx hb dX0_useDays_15 rfl (lv_at hl 1 rfl) ?_
  refine lv_iconst (v := 3) hx hb dX0_useDays_16 rfl ?_
  refine lv_iload_n hx hb dX0_useDays_17 rfl (lv_at hl 2 rfl) ?_
  obtain ⟨tp_18, hc, h⟩ := bw_b1_e h
  refine bw_callV S hK hZ hI (mX3_increase l G cy g (a 1) (a 2) 84 14 tp_8 p1 3 p2 tp_18 hc) Y_X3_increase V_X3_increase l_X0_65 ⟨(Nat.le_of_ble_eq_true rfl), (Nat.le_of_ble_eq_true rfl)⟩ (q0 := 0) rfl rfl rfl (ws' := (bw_dW cy a tp_18 tk tl ts tq np nl)) (bw_pd0 cy a tp_8 tk tl ts tq np nl) (bw_pd0 cy a tp_18 tk tl ts tq np nl).symm rfl rfl hl.1 (rest := []) (st1 := []) rfl rfl (Nat.le_of_ble_eq_true rfl) dX0_useDays_18 ⟨(Nat.le_of_ble_eq_true rfl), (Nat.le_of_ble_eq_true rfl)⟩ (fun H locs hI => ?_)
  exact bw_vret (d := tp_18) (rr := tp') S hr hlocks h (fun q : bw_A1 => (bw_dW cy a q tk tl ts tq np nl)) hI dX0_useDays_21 hQ
set_option maxHeartbeats 4000000 in
set_option maxRecDepth 100000 in
theorem mX0_changeLoan (l : Launch) (G : va_G) (cy : Nat → ClassId) (g : Nat) (a : Nat → Nat) (tp : bw_A1) (tk : bw_A1) (tl : bw_A1) (ts : bw_A1) (tq : bw_A1) (np : Int32) (nl : Int32) (p1 : Int32) (p2 : Int32) (tp' : bw_A1) (tl' : bw_A1) (nl' : Int32) (h : fX0_changeLoan tp tl nl p1 p2 = some (tp', tl', nl')) : bw_M l yX0_changeLoan cX0_changeLoan 3 none 1 24 G cy g [.ref (a 0), .int p1, .int p2] (bw_dW cy a tp tk tl ts tq np nl) none (bw_dW cy a tp' tk tl' ts tq np nl') := by
  refine bw_ofW (by decide +kernel) RX0 rfl (Nat.le_of_ble_eq_true rfl) ?_
  intro p e s m below meth c ls S hr hlocks hK hZ hI hl
  have hx := S.1
  have hb := S.2.1
  have hown := S.2.2.2.1
  have hts := S.2.2.2.2
  generalize va_A _ s.heap.size = A at hI hZ ⊢
  generalize hQ : MQ below _ _ s 0 0 A = Q
  have hl : lv_has ls 3 [(0, .ref (a 0)), (1, .int p1), (2, .int p2)] := hl
  unfold fX0_changeLoan at h
  refine lv_aload_n hx hb dX0_changeLoan_0 rfl (lv_at hl 0 rfl) ?_
  refine bw_get S hK hI 0 2 rfl rfl (by decide) i_X0 f_X0_23 rfl dX0_changeLoan_1 ?_
  refine lv_iload_n hx hb dX0_changeLoan_4 rfl (lv_at hl 1 rfl) ?_
  refine lv_iconst (v := 2) hx hb dX0_changeLoan_5 rfl ?_
  refine lv_iload_n hx hb dX0_changeLoan_6 rfl (lv_at hl 2 rfl) ?_
  obtain ⟨tl_7, hc, h⟩ := bw_b1_e h
  refine bw_callV S hK hZ hI (mX3_increase l G cy g (a 5) (a 6) 90 3 tl p1 2 p2 tl_7 hc) Y_X3_increase V_X3_increase l_X0_65 ⟨(Nat.le_of_ble_eq_true rfl), (Nat.le_of_ble_eq_true rfl)⟩ (q0 := 0) rfl rfl rfl (ws' := (bw_dW cy a tp tk tl_7 ts tq np nl)) (bw_pd2 cy a tp tk tl ts tq np nl) (bw_pd2 cy a tp tk tl_7 ts tq np nl).symm rfl rfl hl.1 (rest := []) (st1 := []) rfl rfl (Nat.le_of_ble_eq_true rfl) dX0_changeLoan_7 ⟨(Nat.le_of_ble_eq_true rfl), (Nat.le_of_ble_eq_true rfl)⟩ (fun H locs hI => ?_)
  refine lv_aload_n hx hb dX0_changeLoan_10 rfl (lv_at hl 0 rfl) ?_
  refine bw_get S hK hI 0 0 rfl rfl (by decide) i_X0 f_X0_14 rfl dX0_changeLoan_11 ?_
  refine lv_aload_n hx hb dX0_changeLoan_14 rfl (lv_at hl 0 rfl) ?_
  refine bw_get S hK hI 0 2 rfl rfl (by decide) i_X0 f_X0_23 rfl dX0_changeLoan_15 ?_
  refine lv_iload_n hx hb dX0_changeLoan_18 rfl (lv_at hl 1 rfl) ?_
  refine lv_iconst (v := 0) hx hb dX0_changeLoan_19 rfl ?_
  obtain ⟨r20, hc, h⟩ := bw_b1_e h
  refine bw_callV S hK hZ hI (mX3_get l G cy g (a 5) (a 6) 90 3 tl_7 p1 0 r20 hc) Y_X3_get V_X3_get l_X0_51 ⟨(Nat.le_of_ble_eq_true rfl), (Nat.le_of_ble_eq_true rfl)⟩ (q0 := 0) rfl rfl rfl (ws' := (bw_dW cy a tp tk tl_7 ts tq np nl)) (bw_pd2 cy a tp tk tl_7 ts tq np nl) (bw_pd2 cy a tp tk tl_7 ts tq np nl).symm rfl rfl hl.1 (rest := [.ref (a 1)]) (st1 := [.int r20, .ref (a 1)]) rfl rfl (Nat.le_of_ble_eq_true rfl) dX0_changeLoan_20 ⟨(Nat.le_of_ble_eq_true rfl), (Nat.le_of_ble_eq_true rfl)⟩ (fun H locs hI => ?_)
  refine lv_iconst (v := 5) hx hb dX0_changeLoan_23 rfl ?_
  refine lv_iload_n hx hb dX0_changeLoan_24 rfl (lv_at hl 2 rfl) ?_
  obtain ⟨tp_25, hc, h⟩ := bw_b1_e h
  refine bw_callV S hK hZ hI (mX3_increase l G cy g (a 1) (a 2) 84 14 tp r20 5 p2 tp_25 hc) Y_X3_increase V_X3_increase l_X0_65 ⟨(Nat.le_of_ble_eq_true rfl), (Nat.le_of_ble_eq_true rfl)⟩ (q0 := 0) rfl rfl rfl (ws' := (bw_dW cy a tp_25 tk tl_7 ts tq np nl)) (bw_pd0 cy a tp tk tl_7 ts tq np nl) (bw_pd0 cy a tp_25 tk tl_7 ts tq np nl).symm rfl rfl hl.1 (rest := []) (st1 := []) rfl rfl (Nat.le_of_ble_eq_true rfl) dX0_changeLoan_25 ⟨(Nat.le_of_ble_eq_true rfl), (Nat.le_of_ble_eq_true rfl)⟩ (fun H locs hI => ?_)
  refine lv_aload_n hx hb dX0_changeLoan_28 rfl (lv_at hl 0 rfl) ?_
  refine bw_get S hK hI 0 0 rfl rfl (by decide) i_X0 f_X0_14 rfl dX0_changeLoan_29 ?_
  refine lv_aload_n hx hb dX0_changeLoan_32 rfl (lv_at hl 0 rfl) ?_
  refine bw_get S hK hI 0 2 rfl rfl (by decide) i_X0 f_X0_23 rfl dX0_changeLoan_33 ?_
  refine lv_iload_n hx hb dX0_changeLoan_36 rfl (lv_at hl 1 rfl) ?_
  refine lv_iconst (v := 1) hx hb dX0_changeLoan_37 rfl ?_
  obtain ⟨r38, hc, h⟩ := bw_b1_e h
  refine bw_callV S hK hZ hI (mX3_get l G cy g (a 5) (a 6) 90 3 tl_7 p1 1 r38 hc) Y_X3_get V_X3_get l_X0_51 ⟨(Nat.le_of_ble_eq_true rfl), (Nat.le_of_ble_eq_true rfl)⟩ (q0 := 0) rfl rfl rfl (ws' := (bw_dW cy a tp_25 tk tl_7 ts tq np nl)) (bw_pd2 cy a tp_25 tk tl_7 ts tq np nl) (bw_pd2 cy a tp_25 tk tl_7 ts tq np nl).symm rfl rfl hl.1 (rest := [.ref (a 1)]) (st1 := [.int r38, .ref (a 1)]) rfl rfl (Nat.le_of_ble_eq_true rfl) dX0_changeLoan_38 ⟨(Nat.le_of_ble_eq_true rfl), (Nat.le_of_ble_eq_true rfl)⟩ (fun H locs hI => ?_)
  refine lv_iconst (v := 4) hx hb dX0_changeLoan_41 rfl ?_
  refine lv_iload_n hx hb dX0_changeLoan_42 rfl (lv_at hl 2 rfl) ?_
  obtain ⟨tp_43, hc, h⟩ := bw_b1_e h
  refine bw_callV S hK hZ hI (mX3_increase l G cy g (a 1) (a 2) 84 14 tp_25 r38 4 p2 tp_43 hc) Y_X3_increase V_X3_increase l_X0_65 ⟨(Nat.le_of_ble_eq_true rfl), (Nat.le_of_ble_eq_true rfl)⟩ (q0 := 0) rfl rfl rfl (ws' := (bw_dW cy a tp_43 tk tl_7 ts tq np nl)) (bw_pd0 cy a tp_25 tk tl_7 ts tq np nl) (bw_pd0 cy a tp_43 tk tl_7 ts tq np nl).symm rfl rfl hl.1 (rest := []) (st1 := []) rfl rfl (Nat.le_of_ble_eq_true rfl) dX0_changeLoan_43 ⟨(Nat.le_of_ble_eq_true rfl), (Nat.le_of_ble_eq_true rfl)⟩ (fun H locs hI => ?_)
  refine lv_aload_n hx hb dX0_changeLoan_46 rfl (lv_at hl 0 rfl) ?_
  refine bw_get S hK hI 0 2 rfl rfl (by decide) i_X0 f_X0_23 rfl dX0_changeLoan_47 ?_
  refine lv_iload_n hx hb dX0_changeLoan_50 rfl (lv_at hl 1 rfl) ?_
  refine lv_iconst (v := 2) hx hb dX0_changeLoan_51 rfl ?_
  obtain ⟨r52, hc, h⟩ := bw_b1_e h
  refine bw_callV S hK hZ hI (mX3_get l G cy g (a 5) (a 6) 90 3 tl_7 p1 2 r52 hc) Y_X3_get V_X3_get l_X0_51 ⟨(Nat.le_of_ble_eq_true rfl), (Nat.le_of_ble_eq_true rfl)⟩ (q0 := 0) rfl rfl rfl (ws' := (bw_dW cy a tp_43 tk tl_7 ts tq np nl)) (bw_pd2 cy a tp_43 tk tl_7 ts tq np nl) (bw_pd2 cy a tp_43 tk tl_7 ts tq np nl).symm rfl rfl hl.1 (rest := []) (st1 := [.int r52]) rfl rfl (Nat.le_of_ble_eq_true rfl) dX0_changeLoan_52 ⟨(Nat.le_of_ble_eq_true rfl), (Nat.le_of_ble_eq_true rfl)⟩ (fun H locs hI => ?_)
  refine lv_if_ne (tgt := 76) hx hb dX0_changeLoan_55 (by decide) (fun c_55 => ?_) (fun c_55 => ?_)
  · rw [if_neg c_55] at h
    exact bw_vret (d := (tp_43, tl_7, nl)) (rr := (tp', tl', nl')) S hr hlocks h (fun q : (bw_A1 × bw_A1 × Int32) => (bw_dW cy a q.1 tk q.2.1 ts tq np q.2.2)) hI dX0_changeLoan_76 hQ
  rw [if_pos c_55] at h
  refine lv_aload_n hx hb dX0_changeLoan_58 rfl (lv_at hl 0 rfl) ?_
  refine bw_get S hK hI 0 2 rfl rfl (by decide) i_X0 f_X0_23 rfl dX0_changeLoan_59 ?_
  refine lv_iload_n hx hb dX0_changeLoan_62 rfl (lv_at hl 1 rfl) ?_
  obtain ⟨tl_63, hc, h⟩ := bw_b1_e h
  refine bw_callV S hK hZ hI (mX3_removeRow l G cy g (a 5) (a 6) 90 3 tl_7 p1 tl_63 hc) Y_X3_removeRow V_X3_removeRow l_X0_117 ⟨(Nat.le_of_ble_eq_true rfl), (Nat.le_of_ble_eq_true rfl)⟩ (q0 := 0) rfl rfl rfl (ws' := (bw_dW cy a tp_43 tk tl_63 ts tq np nl)) (bw_pd2 cy a tp_43 tk tl_7 ts tq np nl) (bw_pd2 cy a tp_43 tk tl_63 ts tq np nl).symm rfl rfl hl.1 (rest := []) (st1 := []) rfl rfl (Nat.le_of_ble_eq_true rfl) dX0_changeLoan_63 ⟨(Nat.le_of_ble_eq_true rfl), (Nat.le_of_ble_eq_true rfl)⟩ (fun H locs hI => ?_)
  refine lv_aload_n hx hb dX0_changeLoan_66 rfl (lv_at hl 0 rfl) ?_
  refine lv_dup hx hb dX0_changeLoan_67 rfl ?_
  refine bw_get S hK hI 0 6 rfl rfl (by decide) i_X0 f_X0_48 rfl dX0_changeLoan_68 ?_
  refine lv_iconst (v := 1) hx hb dX0_changeLoan_71 rfl ?_
  refine lv_isub hx hb dX0_changeLoan_72 ?_
  refine lv_topi (fun nl_73 e_73 => ?_)
  have h := bw_let_e h e_73
  clear e_73
  refine bw_put S hK hI 0 6 (ws' := (bw_dW cy a tp_43 tk tl_63 ts tq np nl_73)) tyX0 tyX0_ok nmX0 rfl rfl (by decide) i_X0 f_X0_48 rfl rfl rfl rfl (Nat.le_of_ble_eq_true rfl) rfl dX0_changeLoan_73 (fun H locs hI => ?_)
  exact bw_vret (d := (tp_43, tl_63, nl_73)) (rr := (tp', tl', nl')) S hr hlocks h (fun q : (bw_A1 × bw_A1 × Int32) => (bw_dW cy a q.1 tk q.2.1 ts tq np q.2.2)) hI dX0_changeLoan_76 hQ
set_option maxHeartbeats 4000000 in
set_option maxRecDepth 100000 in
theorem mX0_moveDays (l : Launch) (G : va_G) (cy : Nat → ClassId) (g : Nat) (a : Nat → Nat) (tp : bw_A1) (tk : bw_A1) (tl : bw_A1) (ts : bw_A1) (tq : bw_A1) (np : Int32) (nl : Int32) (p1 : Int32) (p2 : Int32) (p3 : Int32) (tp' : bw_A1) (h : fX0_moveDays tp p1 p2 p3 = some tp') : bw_M l yX0_moveDays cX0_moveDays 4 none 1 24 G cy g [.ref (a 0), .int p1, .int p2, .int p3] (bw_dW cy a tp tk tl ts tq np nl) none (bw_dW cy a tp' tk tl ts tq np nl) := by
  refine bw_ofW (by decide +kernel) RX0 rfl (Nat.le_of_ble_eq_true rfl) ?_
  intro p e s m below meth c ls S hr hlocks hK hZ hI hl
  have hx := S.1
  have hb := S.2.1
  have hown := S.2.2.2.1
  have hts := S.2.2.2.2
  generalize va_A _ s.heap.size = A at hI hZ ⊢
  generalize hQ : MQ below _ _ s 0 0 A = Q
  have hl : lv_has ls 4 [(0, .ref (a 0)), (1, .int p1), (2, .int p2), (3, .int p3)] := hl
  unfold fX0_moveDays at h
  refine lv_aload_n hx hb dX0_moveDays_0 rfl (lv_at hl 0 rfl) ?_
  refine bw_get S hK hI 0 0 rfl rfl (by decide) i_X0 f_X0_14 rfl dX0_moveDays_1 ?_
  refine lv_iload_n hx hb dX0_moveDays_4 rfl (lv_at hl 1 rfl) ?_
  refine lv_iconst (v := 2) hx hb dX0_moveDays_5 rfl ?_
  refine lv_iload_n hx hb dX0_moveDays_6 rfl (lv_at hl 3 rfl) ?_
  refine lv_ineg hx hb dX0_moveDays_7 ?_
  obtain ⟨tp_8, hc, h⟩ := bw_b1_e h
  refine bw_callV S hK hZ hI (mX3_increase l G cy g (a 1) (a 2) 84 14 tp p1 2 (-p3) tp_8 hc) Y_X3_increase V_X3_increase l_X0_65 ⟨(Nat.le_of_ble_eq_true rfl), (Nat.le_of_ble_eq_true rfl)⟩ (q0 := 0) rfl rfl rfl (ws' := (bw_dW cy a tp_8 tk tl ts tq np nl)) (bw_pd0 cy a tp tk tl ts tq np nl) (bw_pd0 cy a tp_8 tk tl ts tq np nl).symm rfl rfl hl.1 (rest := []) (st1 := []) rfl rfl (Nat.le_of_ble_eq_true rfl) dX0_moveDays_8 ⟨(Nat.le_of_ble_eq_true rfl), (Nat.le_of_ble_eq_true rfl)⟩ (fun H locs hI => ?_)
  refine lv_aload_n hx hb dX0_moveDays_11 rfl (lv_at hl 0 rfl) ?_
  refine bw_get S hK hI 0 0 rfl rfl (by decide) i_X0 f_X0_14 rfl dX0_moveDays_12 ?_
  refine lv_iload_n hx hb dX0_moveDays_15 rfl (lv_at hl 2 rfl) ?_
  refine lv_iconst (v := 2) hx hb dX0_moveDays_16 rfl ?_
  refine lv_iload_n hx hb dX0_moveDays_17 rfl (lv_at hl 3 rfl) ?_
  obtain ⟨tp_18, hc, h⟩ := bw_b1_e h
  refine bw_callV S hK hZ hI (mX3_increase l G cy g (a 1) (a 2) 84 14 tp_8 p2 2 p3 tp_18 hc) Y_X3_increase V_X3_increase l_X0_65 ⟨(Nat.le_of_ble_eq_true rfl), (Nat.le_of_ble_eq_true rfl)⟩ (q0 := 0) rfl rfl rfl (ws' := (bw_dW cy a tp_18 tk tl ts tq np nl)) (bw_pd0 cy a tp_8 tk tl ts tq np nl) (bw_pd0 cy a tp_18 tk tl ts tq np nl).symm rfl rfl hl.1 (rest := []) (st1 := []) rfl rfl (Nat.le_of_ble_eq_true rfl) dX0_moveDays_18 ⟨(Nat.le_of_ble_eq_true rfl), (Nat.le_of_ble_eq_true rfl)⟩ (fun H locs hI => ?_)
  exact bw_vret (d := tp_18) (rr := tp') S hr hlocks h (fun q : bw_A1 => (bw_dW cy a q tk tl ts tq np nl)) hI dX0_moveDays_21 hQ
set_option maxHeartbeats 4000000 in
set_option maxRecDepth 100000 in
theorem mX0_payLoan (l : Launch) (G : va_G) (cy : Nat → ClassId) (g : Nat) (a : Nat → Nat) (tp : bw_A1) (tk : bw_A1) (tl : bw_A1) (ts : bw_A1) (tq : bw_A1) (np : Int32) (nl : Int32) (p1 : Int32) (p2 : Int32) (tp' : bw_A1) (tl' : bw_A1) (nl' : Int32) (h : fX0_payLoan tp tl nl p1 p2 = some (tp', tl', nl')) : bw_M l yX0_payLoan cX0_payLoan 5 none 2 47 G cy g [.ref (a 0), .int p1, .int p2] (bw_dW cy a tp tk tl ts tq np nl) none (bw_dW cy a tp' tk tl' ts tq np nl') := by
  refine bw_ofW (by decide +kernel) RX0 rfl (Nat.le_of_ble_eq_true rfl) ?_
  intro p e s m below meth c ls S hr hlocks hK hZ hI hl
  have hx := S.1
  have hb := S.2.1
  have hown := S.2.2.2.1
  have hts := S.2.2.2.2
  generalize va_A _ s.heap.size = A at hI hZ ⊢
  generalize hQ : MQ below _ _ s 0 0 A = Q
  have hl : lv_has ls 5 [(0, .ref (a 0)), (1, .int p1), (2, .int p2)] := hl
  unfold fX0_payLoan at h
  refine lv_aload_n hx hb dX0_payLoan_0 rfl (lv_at hl 0 rfl) ?_
  refine bw_get S hK hI 0 2 rfl rfl (by decide) i_X0 f_X0_23 rfl dX0_payLoan_1 ?_
  refine lv_iload_n hx hb dX0_payLoan_4 rfl (lv_at hl 1 rfl) ?_
  refine lv_iconst (v := 0) hx hb dX0_payLoan_5 rfl ?_
  obtain ⟨r6, hc, h⟩ := bw_b1_e h
  refine bw_callV S hK hZ hI (mX3_get l G cy g (a 5) (a 6) 90 3 tl p1 0 r6 hc) Y_X3_get V_X3_get l_X0_51 ⟨(Nat.le_of_ble_eq_true rfl), (Nat.le_of_ble_eq_true rfl)⟩ (q0 := 0) rfl rfl rfl (ws' := (bw_dW cy a tp tk tl ts tq np nl)) (bw_pd2 cy a tp tk tl ts tq np nl) (bw_pd2 cy a tp tk tl ts tq np nl).symm rfl rfl hl.1 (rest := []) (st1 := [.int r6]) rfl rfl (Nat.le_of_ble_eq_true rfl) dX0_payLoan_6 ⟨(Nat.le_of_ble_eq_true rfl), (Nat.le_of_ble_eq_true rfl)⟩ (fun H locs hI => ?_)
  refine lv_istore_n (lv' := [(3, .int r6), (0, .ref (a 0)), (1, .int p1), (2, .int p2)]) hx hb dX0_payLoan_9 rfl hl (by decide) rfl (fun ls hl => ?_)
  refine lv_aload_n hx hb dX0_payLoan_10 rfl (lv_at hl 1 rfl) ?_
  refine bw_get S hK hI 0 2 rfl rfl (by decide) i_X0 f_X0_23 rfl dX0_payLoan_11 ?_
  refine lv_iload_n hx hb dX0_payLoan_14 rfl (lv_at hl 2 rfl) ?_
  refine lv_iconst (v := 1) hx hb dX0_payLoan_15 rfl ?_
  obtain ⟨r16, hc, h⟩ := bw_b1_e h
  refine bw_callV S hK hZ hI (mX3_get l G cy g (a 5) (a 6) 90 3 tl p1 1 r16 hc) Y_X3_get V_X3_get l_X0_51 ⟨(Nat.le_of_ble_eq_true rfl), (Nat.le_of_ble_eq_true rfl)⟩ (q0 := 0) rfl rfl rfl (ws' := (bw_dW cy a tp tk tl ts tq np nl)) (bw_pd2 cy a tp tk tl ts tq np nl) (bw_pd2 cy a tp tk tl ts tq np nl).symm rfl rfl hl.1 (rest := []) (st1 := [.int r16]) rfl rfl (Nat.le_of_ble_eq_true rfl) dX0_payLoan_16 ⟨(Nat.le_of_ble_eq_true rfl), (Nat.le_of_ble_eq_true rfl)⟩ (fun H locs hI => ?_)
  refine lv_istore (lv' := [(4, .int r16), (3, .int r6), (0, .ref (a 0)), (1, .int p1), (2, .int p2)]) hx hb dX0_payLoan_19 hl (by decide) rfl (fun ls hl => ?_)
  refine lv_aload_n hx hb dX0_payLoan_21 rfl (lv_at hl 2 rfl) ?_
  refine lv_iload_n hx hb dX0_payLoan_22 rfl (lv_at hl 3 rfl) ?_
  refine lv_iload_n hx hb dX0_payLoan_23 rfl (lv_at hl 4 rfl) ?_
  refine lv_ineg hx hb dX0_payLoan_24 ?_
  obtain ⟨tp_25, tl_25, nl_25, hc, h⟩ := bw_b3_e h
  refine bw_callV S hK hZ hI (mX0_changeLoan l G cy g a tp tk tl ts tq np nl p1 (-p2) tp_25 tl_25 nl_25 hc) Y_X0_changeLoan V_X0_changeLoan l_X0_111 ⟨(Nat.le_of_ble_eq_true rfl), (Nat.le_of_ble_eq_true rfl)⟩ (q0 := 0) rfl rfl rfl (ws' := (bw_dW cy a tp_25 tk tl_25 ts tq np nl_25)) (bw_pS _) (bw_pS' _) rfl rfl hl.1 (rest := []) (st1 := []) rfl rfl (Nat.le_of_ble_eq_true rfl) dX0_payLoan_25 ⟨(Nat.le_of_ble_eq_true rfl), (Nat.le_of_ble_eq_true rfl)⟩ (fun H locs hI => ?_)
  refine lv_aload_n hx hb dX0_payLoan_28 rfl (lv_at hl 2 rfl) ?_
  refine lv_iload hx hb dX0_payLoan_29 (lv_at hl 0 rfl) ?_
  refine lv_iload_n hx hb dX0_payLoan_31 rfl (lv_at hl 1 rfl) ?_
  refine lv_iload_n hx hb dX0_payLoan_32 rfl (lv_at hl 4 rfl) ?_
  obtain ⟨tp_33, hc, h⟩ := bw_b1_e h
  refine bw_callV S hK hZ hI (mX0_moveDays l G cy g a tp_25 tk tl_25 ts tq np nl_25 r16 r6 p2 tp_33 hc) Y_X0_moveDays V_X0_moveDays l_X0_114 ⟨(Nat.le_of_ble_eq_true rfl), (Nat.le_of_ble_eq_true rfl)⟩ (q0 := 0) rfl rfl rfl (ws' := (bw_dW cy a tp_33 tk tl_25 ts tq np nl_25)) (bw_pS _) (bw_pS' _) rfl rfl hl.1 (rest := []) (st1 := []) rfl rfl (Nat.le_of_ble_eq_true rfl) dX0_payLoan_33 ⟨(Nat.le_of_ble_eq_true rfl), (Nat.le_of_ble_eq_true rfl)⟩ (fun H locs hI => ?_)
  exact bw_vret (d := (tp_33, tl_25, nl_25)) (rr := (tp', tl', nl')) S hr hlocks h (fun q : (bw_A1 × bw_A1 × Int32) => (bw_dW cy a q.1 tk q.2.1 ts tq np q.2.2)) hI dX0_payLoan_36 hQ
set_option maxHeartbeats 4000000 in
set_option maxRecDepth 100000 in
theorem mX0_repay (l : Launch) (G : va_G) (cy : Nat → ClassId) (g : Nat) (a : Nat → Nat) (tp : bw_A1) (tk : bw_A1) (tl : bw_A1) (ts : bw_A1) (tq : bw_A1) (np : Int32) (nl : Int32) (p1 : Int32) (p2 : Int32) (tp' : bw_A1) (tl' : bw_A1) (nl' : Int32) (h : fX0_repay tp tl nl p1 p2 = some (tp', tl', nl')) : bw_M l yX0_repay cX0_repay 8 none 3 71 G cy g [.ref (a 0), .int p1, .int p2] (bw_dW cy a tp tk tl ts tq np nl) none (bw_dW cy a tp' tk tl' ts tq np nl') := by
  refine bw_ofW (by decide +kernel) RX0 rfl (Nat.le_of_ble_eq_true rfl) ?_
  intro p e s m below meth c ls S hr hlocks hK hZ hI hl
  have hx := S.1
  have hb := S.2.1
  have hown := S.2.2.2.1
  have hts := S.2.2.2.2
  generalize va_A _ s.heap.size = A at hI hZ ⊢
  generalize hQ : MQ below _ _ s 0 0 A = Q
  have hl : lv_has ls 8 [(0, .ref (a 0)), (1, .int p1), (2, .int p2)] := hl
  have j80 : ∀ (tp : bw_A1) (tl : bw_A1) (nl : Int32) (x1 : Int32) (x3 : Int32) (x4 : Int32) (x5 : Int32) (k11 : bw_A1 → bw_A1 → Int32 → Int32 → Int32 → Int32 → Option (bw_A1 × bw_A1 × Int32)) (hk11 : ∀ (H : Heap) (locs : List Loc) (ls : Array Slot) (tp_ : bw_A1) (tl_ : bw_A1) (nl_ : Int32) (x3_ : Int32) (x4_ : Int32) (x5_ : Int32), k11 tp_ tl_ nl_ x3_ x4_ x5_ = some (tp', tl', nl') → bw_I G A s.heap (bw_dW cy a tp_ tk tl_ ts tq np nl_) H locs → lv_has ls 8 [(0, .ref (a 0)), (1, .int x1), (3, .int x3_), (4, .int x4_), (5, .int x5_)] → W p l e (bw_rm 3 71) s m [.ref (a 0), .int p1, .int p2].toArray below meth c H locs 0 0 Q (F0 m 11 ls [])) (H : Heap) (locs : List Loc) (ls : Array Slot), jX0_repay_80 k11 tp tl nl x1 x3 x4 x5 = some (tp', tl', nl') → bw_I G A s.heap (bw_dW cy a tp tk tl ts tq np nl) H locs → lv_has ls 8 [(0, .ref (a 0)), (1, .int x1), (3, .int x3), (4, .int x4), (5, .int x5)] → W p l e (bw_rm 3 71) s m [.ref (a 0), .int p1, .int p2].toArray below meth c H locs 0 0 Q (F0 m 80 ls []) := by
    intro tp tl nl x1 x3 x4 x5 k11 hk11 H locs ls h hI hl
    unfold jX0_repay_80 at h
    obtain ⟨x5_80, e_80⟩ : ∃ y : Int32, y = x5 + (-1) := ⟨_, rfl⟩
    have h := bw_let_e h e_80
    refine lv_iinc (v := x5_80) (lv' := [(5, .int x5_80), (0, .ref (a 0)), (1, .int x1), (3, .int x3), (4, .int x4)]) hx hb dX0_repay_80 hl (k := 4) rfl (by rw [e_80]; rfl) (by decide) rfl (fun ls hl => ?_)
    clear e_80
    refine lv_goto (tgt := 11) hx hb dX0_repay_83 (by decide) ?_
    exact hk11 _ _ _ tp tl nl x3 x4 x5_80 h hI (lv_sub hl [1,2,3,4,0] rfl)
  have j70 : ∀ (tp : bw_A1) (tl : bw_A1) (nl : Int32) (x1 : Int32) (x3 : Int32) (x4 : Int32) (x5 : Int32) (x6 : Int32) (x7 : Int32) (k11 : bw_A1 → bw_A1 → Int32 → Int32 → Int32 → Int32 → Option (bw_A1 × bw_A1 × Int32)) (hk11 : ∀ (H : Heap) (locs : List Loc) (ls : Array Slot) (tp_ : bw_A1) (tl_ : bw_A1) (nl_ : Int32) (x3_ : Int32) (x4_ : Int32) (x5_ : Int32), k11 tp_ tl_ nl_ x3_ x4_ x5_ = some (tp', tl', nl') → bw_I G A s.heap (bw_dW cy a tp_ tk tl_ ts tq np nl_) H locs → lv_has ls 8 [(0, .ref (a 0)), (1, .int x1), (3, .int x3_), (4, .int x4_), (5, .int x5_)] → W p l e (bw_rm 3 71) s m [.ref (a 0), .int p1, .int p2].toArray below meth c H locs 0 0 Q (F0 m 11 ls [])) (H : Heap) (locs : List Loc) (ls : Array Slot), jX0_repay_70 k11 tp tl nl x1 x3 x4 x5 x6 x7 = some (tp', tl', nl') → bw_I G A s.heap (bw_dW cy a tp tk tl ts tq np nl) H locs → lv_has ls 8 [(0, .ref (a 0)), (1, .int x1), (3, .int x3), (4, .int x4), (5, .int x5), (6, .int x6), (7, .int x7)] → W p l e (bw_rm 3 71) s m [.ref (a 0), .int p1, .int p2].toArray below meth c H locs 0 0 Q (F0 m 70 ls []) := by
    intro tp tl nl x1 x3 x4 x5 x6 x7 k11 hk11 H locs ls h hI hl
    unfold jX0_repay_70 at h
    refine lv_iload hx hb dX0_repay_70 (lv_at hl 6 rfl) ?_
    refine lv_iload hx hb dX0_repay_72 (lv_at hl 5 rfl) ?_
    refine lv_icmp_ge (tgt := 80) hx hb dX0_repay_74 (by decide) (fun c_74 => ?_) (fun c_74 => ?_)
    · rw [if_pos c_74] at h
      exact j80 tp tl nl x1 x3 x4 x5 k11 hk11 _ _ _ h hI (lv_sub hl [0,1,2,3,4] rfl)
    rw [if_neg c_74] at h
    obtain ⟨x4_77, e_77⟩ : ∃ y : Int32, y = x4 + 1 := ⟨_, rfl⟩
    have h := bw_let_e h e_77
    refine lv_iinc (v := x4_77) (lv' := [(4, .int x4_77), (0, .ref (a 0)), (1, .int x1), (3, .int x3), (5, .int x5), (6, .int x6), (7, .int x7)]) hx hb dX0_repay_77 hl (k := 3) rfl (by rw [e_77]; rfl) (by decide) rfl (fun ls hl => ?_)
    clear e_77
    exact j80 tp tl nl x1 x3 x4_77 x5 k11 hk11 _ _ _ h hI (lv_sub hl [1,2,3,0,4] rfl)
  have l11 : ∀ (x1 : Int32) (n : Nat) (H : Heap) (locs : List Loc) (ls : Array Slot) (tp : bw_A1) (tl : bw_A1) (nl : Int32) (x3 : Int32) (x4 : Int32) (x5 : Int32), lX0_repay_11 x1 n tp tl nl x3 x4 x5 = some (tp', tl', nl') → bw_I G A s.heap (bw_dW cy a tp tk tl ts tq np nl) H locs → lv_has ls 8 [(0, .ref (a 0)), (1, .int x1), (3, .int x3), (4, .int x4), (5, .int x5)] → W p l e (bw_rm 3 71) s m [.ref (a 0), .int p1, .int p2].toArray below meth c H locs 0 0 Q (F0 m 11 ls []) := by
    intro x1 n
    induction n with
    | zero => intro H locs ls tp tl nl x3 x4 x5 h; exact bw_none h
    | succ n ih =>
      intro H locs ls tp tl nl x3 x4 x5 h hI hl
      have h : bX0_repay_11  (lX0_repay_11 x1 n) x1 tp tl nl x3 x4 x5 = some (tp', tl', nl') := h
      unfold bX0_repay_11 at h
      refine lv_iload hx hb dX0_repay_11 (lv_at hl 4 rfl) ?_
      refine lv_if_le (tgt := 86) hx hb dX0_repay_13 (by decide) (fun c_13 => ?_) (fun c_13 => ?_)
      · rw [if_pos c_13] at h
        exact bw_vret (d := (tp, tl, nl)) (rr := (tp', tl', nl')) S hr hlocks h (fun q : (bw_A1 × bw_A1 × Int32) => (bw_dW cy a q.1 tk q.2.1 ts tq np q.2.2)) hI dX0_repay_86 hQ
      rw [if_neg c_13] at h
      refine lv_iload_n hx hb dX0_repay_16 rfl (lv_at hl 2 rfl) ?_
      refine lv_if_le (tgt := 86) hx hb dX0_repay_17 (by decide) (fun c_17 => ?_) (fun c_17 => ?_)
      · rw [if_pos c_17] at h
        exact bw_vret (d := (tp, tl, nl)) (rr := (tp', tl', nl')) S hr hlocks h (fun q : (bw_A1 × bw_A1 × Int32) => (bw_dW cy a q.1 tk q.2.1 ts tq np q.2.2)) hI dX0_repay_86 hQ
      rw [if_neg c_17] at h
      refine lv_aload_n hx hb dX0_repay_20 rfl (lv_at hl 0 rfl) ?_
      refine bw_get S hK hI 0 2 rfl rfl (by decide) i_X0 f_X0_23 rfl dX0_repay_21 ?_
      refine lv_iload hx hb dX0_repay_24 (lv_at hl 3 rfl) ?_
      refine lv_iconst (v := 2) hx hb dX0_repay_26 rfl ?_
      obtain ⟨r27, hc, h⟩ := bw_b1_e h
      refine bw_callV S hK hZ hI (mX3_get l G cy g (a 5) (a 6) 90 3 tl x4 2 r27 hc) Y_X3_get V_X3_get l_X0_51 ⟨(Nat.le_of_ble_eq_true rfl), (Nat.le_of_ble_eq_true rfl)⟩ (q0 := 0) rfl rfl rfl (ws' := (bw_dW cy a tp tk tl ts tq np nl)) (bw_pd2 cy a tp tk tl ts tq np nl) (bw_pd2 cy a tp tk tl ts tq np nl).symm rfl rfl hl.1 (rest := []) (st1 := [.int r27]) rfl rfl (Nat.le_of_ble_eq_true rfl) dX0_repay_27 ⟨(Nat.le_of_ble_eq_true rfl), (Nat.le_of_ble_eq_true rfl)⟩ (fun H locs hI => ?_)
      refine lv_istore (lv' := [(6, .int r27), (0, .ref (a 0)), (1, .int x1), (3, .int x3), (4, .int x4), (5, .int x5)]) hx hb dX0_repay_30 hl (by decide) rfl (fun ls hl => ?_)
      refine lv_iconst (v := 0) hx hb dX0_repay_32 rfl ?_
      refine lv_istore (lv' := [(7, .int 0), (6, .int r27), (0, .ref (a 0)), (1, .int x1), (3, .int x3), (4, .int x4), (5, .int x5)]) hx hb dX0_repay_33 hl (by decide) rfl (fun ls hl => ?_)
      refine lv_aload_n hx hb dX0_repay_35 rfl (lv_at hl 2 rfl) ?_
      refine bw_get S hK hI 0 2 rfl rfl (by decide) i_X0 f_X0_23 rfl dX0_repay_36 ?_
      refine lv_iload hx hb dX0_repay_39 (lv_at hl 5 rfl) ?_
      refine lv_iconst (v := 1) hx hb dX0_repay_41 rfl ?_
      obtain ⟨r42, hc, h⟩ := bw_b1_e h
      refine bw_callV S hK hZ hI (mX3_get l G cy g (a 5) (a 6) 90 3 tl x4 1 r42 hc) Y_X3_get V_X3_get l_X0_51 ⟨(Nat.le_of_ble_eq_true rfl), (Nat.le_of_ble_eq_true rfl)⟩ (q0 := 0) rfl rfl rfl (ws' := (bw_dW cy a tp tk tl ts tq np nl)) (bw_pd2 cy a tp tk tl ts tq np nl) (bw_pd2 cy a tp tk tl ts tq np nl).symm rfl rfl hl.1 (rest := []) (st1 := [.int r42]) rfl rfl (Nat.le_of_ble_eq_true rfl) dX0_repay_42 ⟨(Nat.le_of_ble_eq_true rfl), (Nat.le_of_ble_eq_true rfl)⟩ (fun H locs hI => ?_)
      refine lv_iload_n hx hb dX0_repay_45 rfl (lv_at hl 3 rfl) ?_
      refine lv_icmp_ne (tgt := 70) hx hb dX0_repay_46 (by decide) (fun c_46 => ?_) (fun c_46 => ?_)
      · rw [if_neg c_46] at h
        exact j70 tp tl nl x1 x3 x4 x5 r27 0 (lX0_repay_11 x1 n) ih _ _ _ h hI (lv_sub hl [2,3,4,5,6,1,0] rfl)
      rw [if_pos c_46] at h
      refine lv_iload_n hx hb dX0_repay_49 rfl (lv_at hl 4 rfl) ?_
      refine lv_iload hx hb dX0_repay_50 (lv_at hl 1 rfl) ?_
      refine bw_mmin S (rest := []) hl.1 l_X0_79 l_JM_min_s l_JM_i l_JM_min_c (Nat.le_of_ble_eq_true rfl) (Nat.le_of_ble_eq_true rfl) ⟨(Nat.le_of_ble_eq_true rfl), (Nat.le_of_ble_eq_true rfl)⟩ dX0_repay_52 ?_
      refine lv_topi (fun x7_55 e_55 => ?_)
      have h := bw_let_e h e_55
      clear e_55
      refine lv_istore (lv' := [(7, .int x7_55), (6, .int r27), (0, .ref (a 0)), (1, .int x1), (3, .int x3), (4, .int x4), (5, .int x5)]) hx hb dX0_repay_55 hl (by decide) rfl (fun ls hl => ?_)
      refine lv_aload_n hx hb dX0_repay_57 rfl (lv_at hl 2 rfl) ?_
      refine lv_iload hx hb dX0_repay_58 (lv_at hl 5 rfl) ?_
      refine lv_iload hx hb dX0_repay_60 (lv_at hl 0 rfl) ?_
      obtain ⟨tp_62, tl_62, nl_62, hc, h⟩ := bw_b3_e h
      refine bw_callV S hK hZ hI (mX0_payLoan l G cy g a tp tk tl ts tq np nl x4 x7_55 tp_62 tl_62 nl_62 hc) Y_X0_payLoan V_X0_payLoan l_X0_91 ⟨(Nat.le_of_ble_eq_true rfl), (Nat.le_of_ble_eq_true rfl)⟩ (q0 := 0) rfl rfl rfl (ws' := (bw_dW cy a tp_62 tk tl_62 ts tq np nl_62)) (bw_pS _) (bw_pS' _) rfl rfl hl.1 (rest := []) (st1 := []) rfl rfl (Nat.le_of_ble_eq_true rfl) dX0_repay_62 ⟨(Nat.le_of_ble_eq_true rfl), (Nat.le_of_ble_eq_true rfl)⟩ (fun H locs hI => ?_)
      refine lv_iload_n hx hb dX0_repay_65 rfl (lv_at hl 4 rfl) ?_
      refine lv_iload hx hb dX0_repay_66 (lv_at hl 0 rfl) ?_
      refine lv_isub hx hb dX0_repay_68 ?_
      refine lv_topi (fun x3_69 e_69 => ?_)
      have h := bw_let_e h e_69
      clear e_69
      refine lv_istore_n (lv' := [(3, .int x3_69), (7, .int x7_55), (6, .int r27), (0, .ref (a 0)), (1, .int x1), (4, .int x4), (5, .int x5)]) hx hb dX0_repay_69 rfl hl (by decide) rfl (fun ls hl => ?_)
      exact j70 tp_62 tl_62 nl_62 x1 x3_69 x4 x5 r27 x7_55 (lX0_repay_11 x1 n) ih _ _ _ h hI (lv_sub hl [3,4,0,5,6,2,1] rfl)
  unfold fX0_repay at h
  refine lv_iload_n hx hb dX0_repay_0 rfl (lv_at hl 2 rfl) ?_
  refine lv_istore_n (lv' := [(3, .int p2), (0, .ref (a 0)), (1, .int p1), (2, .int p2)]) hx hb dX0_repay_1 rfl hl (by decide) rfl (fun ls hl => ?_)
  refine lv_iconst (v := 0) hx hb dX0_repay_2 rfl ?_
  refine lv_istore (lv' := [(4, .int 0), (3, .int p2), (0, .ref (a 0)), (1, .int p1), (2, .int p2)]) hx hb dX0_repay_3 hl (by decide) rfl (fun ls hl => ?_)
  refine lv_aload_n hx hb dX0_repay_5 rfl (lv_at hl 2 rfl) ?_
  refine bw_get S hK hI 0 6 rfl rfl (by decide) i_X0 f_X0_48 rfl dX0_repay_6 ?_
  refine lv_istore (lv' := [(5, .int nl), (4, .int 0), (3, .int p2), (0, .ref (a 0)), (1, .int p1), (2, .int p2)]) hx hb dX0_repay_9 hl (by decide) rfl (fun ls hl => ?_)
  exact l11 p1 bw_fu _ _ _ tp tl nl p2 0 nl h hI (lv_sub hl [3,4,2,1,0] rfl)
set_option maxHeartbeats 4000000 in
set_option maxRecDepth 100000 in
theorem mX0_callBack (l : Launch) (G : va_G) (cy : Nat → ClassId) (g : Nat) (a : Nat → Nat) (tp : bw_A1) (tk : bw_A1) (tl : bw_A1) (ts : bw_A1) (tq : bw_A1) (np : Int32) (nl : Int32) (p1 : Int32) (p2 : Int32) (r : Int32) (tp' : bw_A1) (tl' : bw_A1) (nl' : Int32) (h : fX0_callBack tp tl nl p1 p2 = some (r, tp', tl', nl')) : bw_M l yX0_callBack cX0_callBack 9 (some .int) 3 71 G cy g [.ref (a 0), .int p1, .int p2] (bw_dW cy a tp tk tl ts tq np nl) (some (.int r)) (bw_dW cy a tp' tk tl' ts tq np nl') := by
  refine bw_ofW (by decide +kernel) RX0 rfl (Nat.le_of_ble_eq_true rfl) ?_
  intro p e s m below meth c ls S hr hlocks hK hZ hI hl
  have hx := S.1
  have hb := S.2.1
  have hown := S.2.2.2.1
  have hts := S.2.2.2.2
  generalize va_A _ s.heap.size = A at hI hZ ⊢
  generalize hQ : MQ below _ _ s 0 0 A = Q
  have hl : lv_has ls 9 [(0, .ref (a 0)), (1, .int p1), (2, .int p2)] := hl
  have j115 : ∀ (tp : bw_A1) (tl : bw_A1) (nl : Int32) (x1 : Int32) (x2 : Int32) (x3 : Int32) (x4 : Int32) (x5 : Int32) (k11 : bw_A1 → bw_A1 → Int32 → Int32 → Int32 → Int32 → Option (Int32 × bw_A1 × bw_A1 × Int32)) (hk11 : ∀ (H : Heap) (locs : List Loc) (ls : Array Slot) (tp_ : bw_A1) (tl_ : bw_A1) (nl_ : Int32) (x3_ : Int32) (x4_ : Int32) (x5_ : Int32), k11 tp_ tl_ nl_ x3_ x4_ x5_ = some (r, tp', tl', nl') → bw_I G A s.heap (bw_dW cy a tp_ tk tl_ ts tq np nl_) H locs → lv_has ls 9 [(0, .ref (a 0)), (1, .int x1), (2, .int x2), (3, .int x3_), (4, .int x4_), (5, .int x5_)] → W p l e (bw_rm 3 71) s m [.ref (a 0), .int p1, .int p2].toArray below meth c H locs 0 0 Q (F0 m 11 ls [])) (H : Heap) (locs : List Loc) (ls : Array Slot), jX0_callBack_115 k11 tp tl nl x1 x2 x3 x4 x5 = some (r, tp', tl', nl') → bw_I G A s.heap (bw_dW cy a tp tk tl ts tq np nl) H locs → lv_has ls 9 [(0, .ref (a 0)), (1, .int x1), (2, .int x2), (3, .int x3), (4, .int x4), (5, .int x5)] → W p l e (bw_rm 3 71) s m [.ref (a 0), .int p1, .int p2].toArray below meth c H locs 0 0 Q (F0 m 115 ls []) := by
    intro tp tl nl x1 x2 x3 x4 x5 k11 hk11 H locs ls h hI hl
    unfold jX0_callBack_115 at h
    obtain ⟨x5_115, e_115⟩ : ∃ y : Int32, y = x5 + (-1) := ⟨_, rfl⟩
    have h := bw_let_e h e_115
    refine lv_iinc (v := x5_115) (lv' := [(5, .int x5_115), (0, .ref (a 0)), (1, .int x1), (2, .int x2), (3, .int x3), (4, .int x4)]) hx hb dX0_callBack_115 hl (k := 5) rfl (by rw [e_115]; rfl) (by decide) rfl (fun ls hl => ?_)
    clear e_115
    refine lv_goto (tgt := 11) hx hb dX0_callBack_118 (by decide) ?_
    exact hk11 _ _ _ tp tl nl x3 x4 x5_115 h hI (lv_sub hl [1,2,3,4,5,0] rfl)
  have j105 : ∀ (tp : bw_A1) (tl : bw_A1) (nl : Int32) (x1 : Int32) (x2 : Int32) (x3 : Int32) (x4 : Int32) (x5 : Int32) (x6 : Int32) (x7 : Int32) (k11 : bw_A1 → bw_A1 → Int32 → Int32 → Int32 → Int32 → Option (Int32 × bw_A1 × bw_A1 × Int32)) (hk11 : ∀ (H : Heap) (locs : List Loc) (ls : Array Slot) (tp_ : bw_A1) (tl_ : bw_A1) (nl_ : Int32) (x3_ : Int32) (x4_ : Int32) (x5_ : Int32), k11 tp_ tl_ nl_ x3_ x4_ x5_ = some (r, tp', tl', nl') → bw_I G A s.heap (bw_dW cy a tp_ tk tl_ ts tq np nl_) H locs → lv_has ls 9 [(0, .ref (a 0)), (1, .int x1), (2, .int x2), (3, .int x3_), (4, .int x4_), (5, .int x5_)] → W p l e (bw_rm 3 71) s m [.ref (a 0), .int p1, .int p2].toArray below meth c H locs 0 0 Q (F0 m 11 ls [])) (H : Heap) (locs : List Loc) (ls : Array Slot), jX0_callBack_105 k11 tp tl nl x1 x2 x3 x4 x5 x6 x7 = some (r, tp', tl', nl') → bw_I G A s.heap (bw_dW cy a tp tk tl ts tq np nl) H locs → lv_has ls 9 [(0, .ref (a 0)), (1, .int x1), (2, .int x2), (3, .int x3), (4, .int x4), (5, .int x5), (6, .int x6), (7, .int x7)] → W p l e (bw_rm 3 71) s m [.ref (a 0), .int p1, .int p2].toArray below meth c H locs 0 0 Q (F0 m 105 ls []) := by
    intro tp tl nl x1 x2 x3 x4 x5 x6 x7 k11 hk11 H locs ls h hI hl
    unfold jX0_callBack_105 at h
    refine lv_iload hx hb dX0_callBack_105 (lv_at hl 7 rfl) ?_
    refine lv_iload hx hb dX0_callBack_107 (lv_at hl 6 rfl) ?_
    refine lv_icmp_ge (tgt := 115) hx hb dX0_callBack_109 (by decide) (fun c_109 => ?_) (fun c_109 => ?_)
    · rw [if_pos c_109] at h
      exact j115 tp tl nl x1 x2 x3 x4 x5 k11 hk11 _ _ _ h hI (lv_sub hl [0,1,2,3,4,5] rfl)
    rw [if_neg c_109] at h
    obtain ⟨x4_112, e_112⟩ : ∃ y : Int32, y = x4 + 1 := ⟨_, rfl⟩
    have h := bw_let_e h e_112
    refine lv_iinc (v := x4_112) (lv' := [(4, .int x4_112), (0, .ref (a 0)), (1, .int x1), (2, .int x2), (3, .int x3), (5, .int x5), (6, .int x6), (7, .int x7)]) hx hb dX0_callBack_112 hl (k := 4) rfl (by rw [e_112]; rfl) (by decide) rfl (fun ls hl => ?_)
    clear e_112
    exact j115 tp tl nl x1 x2 x3 x4_112 x5 k11 hk11 _ _ _ h hI (lv_sub hl [1,2,3,4,0,5] rfl)
  have l11 : ∀ (x1 : Int32) (x2 : Int32) (n : Nat) (H : Heap) (locs : List Loc) (ls : Array Slot) (tp : bw_A1) (tl : bw_A1) (nl : Int32) (x3 : Int32) (x4 : Int32) (x5 : Int32), lX0_callBack_11 x1 x2 n tp tl nl x3 x4 x5 = some (r, tp', tl', nl') → bw_I G A s.heap (bw_dW cy a tp tk tl ts tq np nl) H locs → lv_has ls 9 [(0, .ref (a 0)), (1, .int x1), (2, .int x2), (3, .int x3), (4, .int x4), (5, .int x5)] → W p l e (bw_rm 3 71) s m [.ref (a 0), .int p1, .int p2].toArray below meth c H locs 0 0 Q (F0 m 11 ls []) := by
    intro x1 x2 n
    induction n with
    | zero => intro H locs ls tp tl nl x3 x4 x5 h; exact bw_none h
    | succ n ih =>
      intro H locs ls tp tl nl x3 x4 x5 h hI hl
      have h : bX0_callBack_11  (lX0_callBack_11 x1 x2 n) x1 x2 tp tl nl x3 x4 x5 = some (r, tp', tl', nl') := h
      unfold bX0_callBack_11 at h
      refine lv_iload hx hb dX0_callBack_11 (lv_at hl 5 rfl) ?_
      refine lv_if_le (tgt := 121) hx hb dX0_callBack_13 (by decide) (fun c_13 => ?_) (fun c_13 => ?_)
      · rw [if_pos c_13] at h
        refine lv_iload_n hx hb dX0_callBack_121 rfl (lv_at hl 3 rfl) ?_
        exact bw_iret (d := (tp, tl, nl)) (rr := (r, tp', tl', nl')) S hr hlocks h (fun q : (bw_A1 × bw_A1 × Int32) => (bw_dW cy a q.1 tk q.2.1 ts tq np q.2.2)) hI rfl dX0_callBack_122 hQ
      rw [if_neg c_13] at h
      refine lv_iload_n hx hb dX0_callBack_16 rfl (lv_at hl 3 rfl) ?_
      refine lv_iload_n hx hb dX0_callBack_17 rfl (lv_at hl 2 rfl) ?_
      refine lv_icmp_ge (tgt := 121) hx hb dX0_callBack_18 (by decide) (fun c_18 => ?_) (fun c_18 => ?_)
      · rw [if_pos c_18] at h
        refine lv_iload_n hx hb dX0_callBack_121 rfl (lv_at hl 3 rfl) ?_
        exact bw_iret (d := (tp, tl, nl)) (rr := (r, tp', tl', nl')) S hr hlocks h (fun q : (bw_A1 × bw_A1 × Int32) => (bw_dW cy a q.1 tk q.2.1 ts tq np q.2.2)) hI rfl dX0_callBack_122 hQ
      rw [if_neg c_18] at h
      refine lv_aload_n hx hb dX0_callBack_21 rfl (lv_at hl 0 rfl) ?_
      refine bw_get S hK hI 0 2 rfl rfl (by decide) i_X0 f_X0_23 rfl dX0_callBack_22 ?_
      refine lv_iload hx hb dX0_callBack_25 (lv_at hl 4 rfl) ?_
      refine lv_iconst (v := 2) hx hb dX0_callBack_27 rfl ?_
      obtain ⟨r28, hc, h⟩ := bw_b1_e h
      refine bw_callV S hK hZ hI (mX3_get l G cy g (a 5) (a 6) 90 3 tl x4 2 r28 hc) Y_X3_get V_X3_get l_X0_51 ⟨(Nat.le_of_ble_eq_true rfl), (Nat.le_of_ble_eq_true rfl)⟩ (q0 := 0) rfl rfl rfl (ws' := (bw_dW cy a tp tk tl ts tq np nl)) (bw_pd2 cy a tp tk tl ts tq np nl) (bw_pd2 cy a tp tk tl ts tq np nl).symm rfl rfl hl.1 (rest := []) (st1 := [.int r28]) rfl rfl (Nat.le_of_ble_eq_true rfl) dX0_callBack_28 ⟨(Nat.le_of_ble_eq_true rfl), (Nat.le_of_ble_eq_true rfl)⟩ (fun H locs hI => ?_)
      refine lv_istore (lv' := [(6, .int r28), (0, .ref (a 0)), (1, .int x1), (2, .int x2), (3, .int x3), (4, .int x4), (5, .int x5)]) hx hb dX0_callBack_31 hl (by decide) rfl (fun ls hl => ?_)
      refine lv_iconst (v := 0) hx hb dX0_callBack_33 rfl ?_
      refine lv_istore (lv' := [(7, .int 0), (6, .int r28), (0, .ref (a 0)), (1, .int x1), (2, .int x2), (3, .int x3), (4, .int x4), (5, .int x5)]) hx hb dX0_callBack_34 hl (by decide) rfl (fun ls hl => ?_)
      refine lv_aload_n hx hb dX0_callBack_36 rfl (lv_at hl 2 rfl) ?_
      refine bw_get S hK hI 0 2 rfl rfl (by decide) i_X0 f_X0_23 rfl dX0_callBack_37 ?_
      refine lv_iload hx hb dX0_callBack_40 (lv_at hl 6 rfl) ?_
      refine lv_iconst (v := 0) hx hb dX0_callBack_42 rfl ?_
      obtain ⟨r43, hc, h⟩ := bw_b1_e h
      refine bw_callV S hK hZ hI (mX3_get l G cy g (a 5) (a 6) 90 3 tl x4 0 r43 hc) Y_X3_get V_X3_get l_X0_51 ⟨(Nat.le_of_ble_eq_true rfl), (Nat.le_of_ble_eq_true rfl)⟩ (q0 := 0) rfl rfl rfl (ws' := (bw_dW cy a tp tk tl ts tq np nl)) (bw_pd2 cy a tp tk tl ts tq np nl) (bw_pd2 cy a tp tk tl ts tq np nl).symm rfl rfl hl.1 (rest := []) (st1 := [.int r43]) rfl rfl (Nat.le_of_ble_eq_true rfl) dX0_callBack_43 ⟨(Nat.le_of_ble_eq_true rfl), (Nat.le_of_ble_eq_true rfl)⟩ (fun H locs hI => ?_)
      refine lv_iload_n hx hb dX0_callBack_46 rfl (lv_at hl 3 rfl) ?_
      refine lv_icmp_ne (tgt := 105) hx hb dX0_callBack_47 (by decide) (fun c_47 => ?_) (fun c_47 => ?_)
      · rw [if_neg c_47] at h
        exact j105 tp tl nl x1 x2 x3 x4 x5 r28 0 (lX0_callBack_11 x1 x2 n) ih _ _ _ h hI (lv_sub hl [2,3,4,5,6,7,1,0] rfl)
      rw [if_pos c_47] at h
      refine lv_aload_n hx hb dX0_callBack_50 rfl (lv_at hl 2 rfl) ?_
      refine bw_get S hK hI 0 0 rfl rfl (by decide) i_X0 f_X0_14 rfl dX0_callBack_51 ?_
      refine lv_aload_n hx hb dX0_callBack_54 rfl (lv_at hl 2 rfl) ?_
      refine bw_get S hK hI 0 2 rfl rfl (by decide) i_X0 f_X0_23 rfl dX0_callBack_55 ?_
      refine lv_iload hx hb dX0_callBack_58 (lv_at hl 6 rfl) ?_
      refine lv_iconst (v := 1) hx hb dX0_callBack_60 rfl ?_
      obtain ⟨r61, hc, h⟩ := bw_b1_e h
      refine bw_callV S hK hZ hI (mX3_get l G cy g (a 5) (a 6) 90 3 tl x4 1 r61 hc) Y_X3_get V_X3_get l_X0_51 ⟨(Nat.le_of_ble_eq_true rfl), (Nat.le_of_ble_eq_true rfl)⟩ (q0 := 0) rfl rfl rfl (ws' := (bw_dW cy a tp tk tl ts tq np nl)) (bw_pd2 cy a tp tk tl ts tq np nl) (bw_pd2 cy a tp tk tl ts tq np nl).symm rfl rfl hl.1 (rest := [.ref (a 1)]) (st1 := [.int r61, .ref (a 1)]) rfl rfl (Nat.le_of_ble_eq_true rfl) dX0_callBack_61 ⟨(Nat.le_of_ble_eq_true rfl), (Nat.le_of_ble_eq_true rfl)⟩ (fun H locs hI => ?_)
      refine lv_iconst (v := 2) hx hb dX0_callBack_64 rfl ?_
      obtain ⟨r65, hc, h⟩ := bw_b1_e h
      refine bw_callV S hK hZ hI (mX3_get l G cy g (a 1) (a 2) 84 14 tp r61 2 r65 hc) Y_X3_get V_X3_get l_X0_51 ⟨(Nat.le_of_ble_eq_true rfl), (Nat.le_of_ble_eq_true rfl)⟩ (q0 := 0) rfl rfl rfl (ws' := (bw_dW cy a tp tk tl ts tq np nl)) (bw_pd0 cy a tp tk tl ts tq np nl) (bw_pd0 cy a tp tk tl ts tq np nl).symm rfl rfl hl.1 (rest := []) (st1 := [.int r65]) rfl rfl (Nat.le_of_ble_eq_true rfl) dX0_callBack_65 ⟨(Nat.le_of_ble_eq_true rfl), (Nat.le_of_ble_eq_true rfl)⟩ (fun H locs hI => ?_)
      refine lv_istore (lv' := [(8, .int r65), (7, .int 0), (6, .int r28), (0, .ref (a 0)), (1, .int x1), (2, .int x2), (3, .int x3), (4, .int x4), (5, .int x5)]) hx hb dX0_callBack_68 hl (by decide) rfl (fun ls hl => ?_)
      refine lv_iload_n hx hb dX0_callBack_70 rfl (lv_at hl 5 rfl) ?_
      refine lv_iload_n hx hb dX0_callBack_71 rfl (lv_at hl 6 rfl) ?_
      refine lv_isub hx hb dX0_callBack_72 ?_
      refine lv_iload hx hb dX0_callBack_73 (lv_at hl 0 rfl) ?_
      refine lv_iload hx hb dX0_callBack_75 (lv_at hl 2 rfl) ?_
      refine bw_mmin S (rest := [.int (x2 - x3)]) hl.1 l_X0_79 l_JM_min_s l_JM_i l_JM_min_c (Nat.le_of_ble_eq_true rfl) (Nat.le_of_ble_eq_true rfl) ⟨(Nat.le_of_ble_eq_true rfl), (Nat.le_of_ble_eq_true rfl)⟩ dX0_callBack_77 ?_
      refine bw_mmin S (rest := []) hl.1 l_X0_79 l_JM_min_s l_JM_i l_JM_min_c (Nat.le_of_ble_eq_true rfl) (Nat.le_of_ble_eq_true rfl) ⟨(Nat.le_of_ble_eq_true rfl), (Nat.le_of_ble_eq_true rfl)⟩ dX0_callBack_80 ?_
      refine lv_topi (fun x7_83 e_83 => ?_)
      have h := bw_let_e h e_83
      clear e_83
      refine lv_istore (lv' := [(7, .int x7_83), (8, .int r65), (6, .int r28), (0, .ref (a 0)), (1, .int x1), (2, .int x2), (3, .int x3), (4, .int x4), (5, .int x5)]) hx hb dX0_callBack_83 hl (by decide) rfl (fun ls hl => ?_)
      refine lv_aload_n hx hb dX0_callBack_85 rfl (lv_at hl 3 rfl) ?_
      refine lv_iload hx hb dX0_callBack_86 (lv_at hl 7 rfl) ?_
      refine lv_iload hx hb dX0_callBack_88 (lv_at hl 0 rfl) ?_
      obtain ⟨tp_90, tl_90, nl_90, hc, h⟩ := bw_b3_e h
      refine bw_callV S hK hZ hI (mX0_payLoan l G cy g a tp tk tl ts tq np nl x4 x7_83 tp_90 tl_90 nl_90 hc) Y_X0_payLoan V_X0_payLoan l_X0_91 ⟨(Nat.le_of_ble_eq_true rfl), (Nat.le_of_ble_eq_true rfl)⟩ (q0 := 0) rfl rfl rfl (ws' := (bw_dW cy a tp_90 tk tl_90 ts tq np nl_90)) (bw_pS _) (bw_pS' _) rfl rfl hl.1 (rest := []) (st1 := []) rfl rfl (Nat.le_of_ble_eq_true rfl) dX0_callBack_90 ⟨(Nat.le_of_ble_eq_true rfl), (Nat.le_of_ble_eq_true rfl)⟩ (fun H locs hI => ?_)
      refine lv_aload_n hx hb dX0_callBack_93 rfl (lv_at hl 3 rfl) ?_
      refine lv_iload_n hx hb dX0_callBack_94 rfl (lv_at hl 4 rfl) ?_
      refine lv_iload hx hb dX0_callBack_95 (lv_at hl 0 rfl) ?_
      obtain ⟨tp_97, hc, h⟩ := bw_b1_e h
      refine bw_callV S hK hZ hI (mX0_useDays l G cy g a tp_90 tk tl_90 ts tq np nl_90 x1 x7_83 tp_97 hc) Y_X0_useDays V_X0_useDays l_X0_73 ⟨(Nat.le_of_ble_eq_true rfl), (Nat.le_of_ble_eq_true rfl)⟩ (q0 := 0) rfl rfl rfl (ws' := (bw_dW cy a tp_97 tk tl_90 ts tq np nl_90)) (bw_pS _) (bw_pS' _) rfl rfl hl.1 (rest := []) (st1 := []) rfl rfl (Nat.le_of_ble_eq_true rfl) dX0_callBack_97 ⟨(Nat.le_of_ble_eq_true rfl), (Nat.le_of_ble_eq_true rfl)⟩ (fun H locs hI => ?_)
      refine lv_iload_n hx hb dX0_callBack_100 rfl (lv_at hl 6 rfl) ?_
      refine lv_iload hx hb dX0_callBack_101 (lv_at hl 0 rfl) ?_
      refine lv_iadd hx hb dX0_callBack_103 ?_
      refine lv_topi (fun x3_104 e_104 => ?_)
      have h := bw_let_e h e_104
      clear e_104
      refine lv_istore_n (lv' := [(3, .int x3_104), (7, .int x7_83), (8, .int r65), (6, .int r28), (0, .ref (a 0)), (1, .int x1), (2, .int x2), (4, .int x4), (5, .int x5)]) hx hb dX0_callBack_104 rfl hl (by decide) rfl (fun ls hl => ?_)
      exact j105 tp_97 tl_90 nl_90 x1 x2 x3_104 x4 x5 r28 x7_83 (lX0_callBack_11 x1 x2 n) ih _ _ _ h hI (lv_sub hl [4,5,6,0,7,8,3,1] rfl)
  unfold fX0_callBack at h
  refine lv_iconst (v := 0) hx hb dX0_callBack_0 rfl ?_
  refine lv_istore_n (lv' := [(3, .int 0), (0, .ref (a 0)), (1, .int p1), (2, .int p2)]) hx hb dX0_callBack_1 rfl hl (by decide) rfl (fun ls hl => ?_)
  refine lv_iconst (v := 0) hx hb dX0_callBack_2 rfl ?_
  refine lv_istore (lv' := [(4, .int 0), (3, .int 0), (0, .ref (a 0)), (1, .int p1), (2, .int p2)]) hx hb dX0_callBack_3 hl (by decide) rfl (fun ls hl => ?_)
  refine lv_aload_n hx hb dX0_callBack_5 rfl (lv_at hl 2 rfl) ?_
  refine bw_get S hK hI 0 6 rfl rfl (by decide) i_X0 f_X0_48 rfl dX0_callBack_6 ?_
  refine lv_istore (lv' := [(5, .int nl), (4, .int 0), (3, .int 0), (0, .ref (a 0)), (1, .int p1), (2, .int p2)]) hx hb dX0_callBack_9 hl (by decide) rfl (fun ls hl => ?_)
  exact l11 p1 p2 bw_fu _ _ _ tp tl nl 0 0 nl h hI (lv_sub hl [3,4,5,2,1,0] rfl)
set_option maxHeartbeats 4000000 in
set_option maxRecDepth 100000 in
theorem mX0_weightOfLender (l : Launch) (G : va_G) (cy : Nat → ClassId) (g : Nat) (a : Nat → Nat) (tp : bw_A1) (tk : bw_A1) (tl : bw_A1) (ts : bw_A1) (tq : bw_A1) (np : Int32) (nl : Int32) (p1 : Int32) (p2 : Int32) (r : Int32) (h : fX0_weightOfLender tp ts p1 p2 = some r) : bw_M l yX0_weightOfLender cX0_weightOfLender 3 (some .int) 1 23 G cy g [.ref (a 0), .int p1, .int p2] (bw_dW cy a tp tk tl ts tq np nl) (some (.int r)) (bw_dW cy a tp tk tl ts tq np nl) := by
  refine bw_ofW (by decide +kernel) RX0 rfl (Nat.le_of_ble_eq_true rfl) ?_
  intro p e s m below meth c ls S hr hlocks hK hZ hI hl
  have hx := S.1
  have hb := S.2.1
  have hown := S.2.2.2.1
  have hts := S.2.2.2.2
  generalize va_A _ s.heap.size = A at hI hZ ⊢
  generalize hQ : MQ below _ _ s 0 0 A = Q
  have hl : lv_has ls 3 [(0, .ref (a 0)), (1, .int p1), (2, .int p2)] := hl
  unfold fX0_weightOfLender at h
  refine lv_aload_n hx hb dX0_weightOfLender_0 rfl (lv_at hl 0 rfl) ?_
  refine bw_get S hK hI 0 3 rfl rfl (by decide) i_X0 f_X0_30 rfl dX0_weightOfLender_1 ?_
  refine lv_iconst (v := 0) hx hb dX0_weightOfLender_4 rfl ?_
  refine lv_iconst (v := 0) hx hb dX0_weightOfLender_5 rfl ?_
  obtain ⟨r6, hc, h⟩ := bw_b1_e h
  refine bw_callV S hK hZ hI (mX3_get l G cy g (a 7) (a 8) 3 3 ts 0 0 r6 hc) Y_X3_get V_X3_get l_X0_51 ⟨(Nat.le_of_ble_eq_true rfl), (Nat.le_of_ble_eq_true rfl)⟩ (q0 := 0) rfl rfl rfl (ws' := (bw_dW cy a tp tk tl ts tq np nl)) (bw_pd3 cy a tp tk tl ts tq np nl) (bw_pd3 cy a tp tk tl ts tq np nl).symm rfl rfl hl.1 (rest := []) (st1 := [.int r6]) rfl rfl (Nat.le_of_ble_eq_true rfl) dX0_weightOfLender_6 ⟨(Nat.le_of_ble_eq_true rfl), (Nat.le_of_ble_eq_true rfl)⟩ (fun H locs hI => ?_)
  by_cases c_9_0 : r6 = 0
  · rw [if_pos c_9_0] at h
    refine lv_lookup (tgt := 36) hx hb dX0_weightOfLender_9 (by decide) (by rw [c_9_0]) (by decide) ?_
    refine lv_aload_n hx hb dX0_weightOfLender_36 rfl (lv_at hl 0 rfl) ?_
    refine bw_get S hK hI 0 0 rfl rfl (by decide) i_X0 f_X0_14 rfl dX0_weightOfLender_37 ?_
    refine lv_iload_n hx hb dX0_weightOfLender_40 rfl (lv_at hl 1 rfl) ?_
    refine lv_iconst (v := 0) hx hb dX0_weightOfLender_41 rfl ?_
    obtain ⟨r42, hc, h⟩ := bw_b1_e h
    refine bw_callV S hK hZ hI (mX3_get l G cy g (a 1) (a 2) 84 14 tp p1 0 r42 hc) Y_X3_get V_X3_get l_X0_51 ⟨(Nat.le_of_ble_eq_true rfl), (Nat.le_of_ble_eq_true rfl)⟩ (q0 := 0) rfl rfl rfl (ws' := (bw_dW cy a tp tk tl ts tq np nl)) (bw_pd0 cy a tp tk tl ts tq np nl) (bw_pd0 cy a tp tk tl ts tq np nl).symm rfl rfl hl.1 (rest := []) (st1 := [.int r42]) rfl rfl (Nat.le_of_ble_eq_true rfl) dX0_weightOfLender_42 ⟨(Nat.le_of_ble_eq_true rfl), (Nat.le_of_ble_eq_true rfl)⟩ (fun H locs hI => ?_)
    exact bw_iretP S hr hlocks h hI rfl dX0_weightOfLender_45 hQ
  rw [if_neg c_9_0] at h
  by_cases c_9_1 : r6 = 1
  · rw [if_pos c_9_1] at h
    refine lv_lookup (tgt := 46) hx hb dX0_weightOfLender_9 (by decide) (by rw [c_9_1]) (by decide) ?_
    refine lv_iload_n hx hb dX0_weightOfLender_46 rfl (lv_at hl 2 rfl) ?_
    exact bw_iretP S hr hlocks h hI rfl dX0_weightOfLender_47 hQ
  rw [if_neg c_9_1] at h
  have t_0 := bw_nei c_9_0
  have t_1 := bw_nei c_9_1
  refine lv_lookup (tgt := 48) hx hb dX0_weightOfLender_9 (by decide) (bw_lk2 t_0 t_1) (by decide) ?_
  refine lv_aload_n hx hb dX0_weightOfLender_48 rfl (lv_at hl 0 rfl) ?_
  refine bw_get S hK hI 0 0 rfl rfl (by decide) i_X0 f_X0_14 rfl dX0_weightOfLender_49 ?_
  refine lv_iload_n hx hb dX0_weightOfLender_52 rfl (lv_at hl 1 rfl) ?_
  refine lv_iconst (v := 5) hx hb dX0_weightOfLender_53 rfl ?_
  obtain ⟨r54, hc, h⟩ := bw_b1_e h
  refine bw_callV S hK hZ hI (mX3_get l G cy g (a 1) (a 2) 84 14 tp p1 5 r54 hc) Y_X3_get V_X3_get l_X0_51 ⟨(Nat.le_of_ble_eq_true rfl), (Nat.le_of_ble_eq_true rfl)⟩ (q0 := 0) rfl rfl rfl (ws' := (bw_dW cy a tp tk tl ts tq np nl)) (bw_pd0 cy a tp tk tl ts tq np nl) (bw_pd0 cy a tp tk tl ts tq np nl).symm rfl rfl hl.1 (rest := []) (st1 := [.int r54]) rfl rfl (Nat.le_of_ble_eq_true rfl) dX0_weightOfLender_54 ⟨(Nat.le_of_ble_eq_true rfl), (Nat.le_of_ble_eq_true rfl)⟩ (fun H locs hI => ?_)
  refine lv_ineg hx hb dX0_weightOfLender_57 ?_
  exact bw_iretP S hr hlocks h hI rfl dX0_weightOfLender_58 hQ
set_option maxHeartbeats 4000000 in
set_option maxRecDepth 100000 in
theorem mX0_queueLenders (l : Launch) (G : va_G) (cy : Nat → ClassId) (g : Nat) (a : Nat → Nat) (tp : bw_A1) (tk : bw_A1) (tl : bw_A1) (ts : bw_A1) (tq : bw_A1) (np : Int32) (nl : Int32) (p1 : Int32) (r : Int32) (tq' : bw_A1) (h : fX0_queueLenders tp ts tq np p1 = some (r, tq')) : bw_M l yX0_queueLenders cX0_queueLenders 7 (some .int) 2 46 G cy g [.ref (a 0), .int p1] (bw_dW cy a tp tk tl ts tq np nl) (some (.int r)) (bw_dW cy a tp tk tl ts tq' np nl) := by
  refine bw_ofW (by decide +kernel) RX0 rfl (Nat.le_of_ble_eq_true rfl) ?_
  intro p e s m below meth c ls S hr hlocks hK hZ hI hl
  have hx := S.1
  have hb := S.2.1
  have hown := S.2.2.2.1
  have hts := S.2.2.2.2
  generalize va_A _ s.heap.size = A at hI hZ ⊢
  generalize hQ : MQ below _ _ s 0 0 A = Q
  have hl : lv_has ls 7 [(0, .ref (a 0)), (1, .int p1)] := hl
  have j129 : ∀ (tq : bw_A1) (x1 : Int32) (x2 : Int32) (x3 : Int32) (k4 : bw_A1 → Int32 → Int32 → Option (Int32 × bw_A1)) (hk4 : ∀ (H : Heap) (locs : List Loc) (ls : Array Slot) (tq_ : bw_A1) (x2_ : Int32) (x3_ : Int32), k4 tq_ x2_ x3_ = some (r, tq') → bw_I G A s.heap (bw_dW cy a tp tk tl ts tq_ np nl) H locs → lv_has ls 7 [(0, .ref (a 0)), (1, .int x1), (2, .int x2_), (3, .int x3_)] → W p l e (bw_rm 2 46) s m [.ref (a 0), .int p1].toArray below meth c H locs 0 0 Q (F0 m 4 ls [])) (H : Heap) (locs : List Loc) (ls : Array Slot), jX0_queueLenders_129 k4 tp ts tq np x1 x2 x3 = some (r, tq') → bw_I G A s.heap (bw_dW cy a tp tk tl ts tq np nl) H locs → lv_has ls 7 [(0, .ref (a 0)), (1, .int x1), (2, .int x2), (3, .int x3)] → W p l e (bw_rm 2 46) s m [.ref (a 0), .int p1].toArray below meth c H locs 0 0 Q (F0 m 129 ls []) := by
    intro tq x1 x2 x3 k4 hk4 H locs ls h hI hl
    unfold jX0_queueLenders_129 at h
    obtain ⟨x3_129, e_129⟩ : ∃ y : Int32, y = x3 + 1 := ⟨_, rfl⟩
    have h := bw_let_e h e_129
    refine lv_iinc (v := x3_129) (lv' := [(3, .int x3_129), (0, .ref (a 0)), (1, .int x1), (2, .int x2)]) hx hb dX0_queueLenders_129 hl (k := 3) rfl (by rw [e_129]; rfl) (by decide) rfl (fun ls hl => ?_)
    clear e_129
    refine lv_goto (tgt := 4) hx hb dX0_queueLenders_132 (by decide) ?_
    exact hk4 _ _ _ tq x2 x3_129 h hI (lv_sub hl [1,2,3,0] rfl)
  have j82 : ∀ (tq : bw_A1) (x1 : Int32) (x2 : Int32) (x3 : Int32) (x4 : Int32) (x5 : Int32) (x6 : Int32) (k4 : bw_A1 → Int32 → Int32 → Option (Int32 × bw_A1)) (hk4 : ∀ (H : Heap) (locs : List Loc) (ls : Array Slot) (tq_ : bw_A1) (x2_ : Int32) (x3_ : Int32), k4 tq_ x2_ x3_ = some (r, tq') → bw_I G A s.heap (bw_dW cy a tp tk tl ts tq_ np nl) H locs → lv_has ls 7 [(0, .ref (a 0)), (1, .int x1), (2, .int x2_), (3, .int x3_)] → W p l e (bw_rm 2 46) s m [.ref (a 0), .int p1].toArray below meth c H locs 0 0 Q (F0 m 4 ls [])) (H : Heap) (locs : List Loc) (ls : Array Slot), jX0_queueLenders_82 k4 tp ts tq np x1 x2 x3 x4 x5 x6 = some (r, tq') → bw_I G A s.heap (bw_dW cy a tp tk tl ts tq np nl) H locs → lv_has ls 7 [(0, .ref (a 0)), (1, .int x1), (2, .int x2), (3, .int x3), (4, .int x4), (5, .int x5), (6, .int x6)] → W p l e (bw_rm 2 46) s m [.ref (a 0), .int p1].toArray below meth c H locs 0 0 Q (F0 m 82 ls []) := by
    intro tq x1 x2 x3 x4 x5 x6 k4 hk4 H locs ls h hI hl
    unfold jX0_queueLenders_82 at h
    refine lv_aload_n hx hb dX0_queueLenders_82 rfl (lv_at hl 0 rfl) ?_
    refine bw_get S hK hI 0 4 rfl rfl (by decide) i_X0 f_X0_33 rfl dX0_queueLenders_83 ?_
    refine lv_iload hx hb dX0_queueLenders_86 (lv_at hl 6 rfl) ?_
    obtain ⟨tq_88, hc, h⟩ := bw_b1_e h
    refine bw_callV S hK hZ hI (mX3_insertRow l G cy g (a 9) (a 10) 18 3 tq x6 tq_88 hc) Y_X3_insertRow V_X3_insertRow l_X0_104 ⟨(Nat.le_of_ble_eq_true rfl), (Nat.le_of_ble_eq_true rfl)⟩ (q0 := 0) rfl rfl rfl (ws' := (bw_dW cy a tp tk tl ts tq_88 np nl)) (bw_pd4 cy a tp tk tl ts tq np nl) (bw_pd4 cy a tp tk tl ts tq_88 np nl).symm rfl rfl hl.1 (rest := []) (st1 := []) rfl rfl (Nat.le_of_ble_eq_true rfl) dX0_queueLenders_88 ⟨(Nat.le_of_ble_eq_true rfl), (Nat.le_of_ble_eq_true rfl)⟩ (fun H locs hI => ?_)
    refine lv_aload_n hx hb dX0_queueLenders_91 rfl (lv_at hl 0 rfl) ?_
    refine bw_get S hK hI 0 4 rfl rfl (by decide) i_X0 f_X0_33 rfl dX0_queueLenders_92 ?_
    refine lv_iload hx hb dX0_queueLenders_95 (lv_at hl 6 rfl) ?_
    refine lv_iconst (v := 0) hx hb dX0_queueLenders_97 rfl ?_
    refine lv_iload_n hx hb dX0_queueLenders_98 rfl (lv_at hl 3 rfl) ?_
    obtain ⟨tq_99, hc, h⟩ := bw_b1_e h
    refine bw_callV S hK hZ hI (mX3_put l G cy g (a 9) (a 10) 18 3 tq_88 x6 0 x3 tq_99 hc) Y_X3_put V_X3_put l_X0_36 ⟨(Nat.le_of_ble_eq_true rfl), (Nat.le_of_ble_eq_true rfl)⟩ (q0 := 0) rfl rfl rfl (ws' := (bw_dW cy a tp tk tl ts tq_99 np nl)) (bw_pd4 cy a tp tk tl ts tq_88 np nl) (bw_pd4 cy a tp tk tl ts tq_99 np nl).symm rfl rfl hl.1 (rest := []) (st1 := []) rfl rfl (Nat.le_of_ble_eq_true rfl) dX0_queueLenders_99 ⟨(Nat.le_of_ble_eq_true rfl), (Nat.le_of_ble_eq_true rfl)⟩ (fun H locs hI => ?_)
    refine lv_aload_n hx hb dX0_queueLenders_102 rfl (lv_at hl 0 rfl) ?_
    refine bw_get S hK hI 0 4 rfl rfl (by decide) i_X0 f_X0_33 rfl dX0_queueLenders_103 ?_
    refine lv_iload hx hb dX0_queueLenders_106 (lv_at hl 6 rfl) ?_
    refine lv_iconst (v := 1) hx hb dX0_queueLenders_108 rfl ?_
    refine lv_iload hx hb dX0_queueLenders_109 (lv_at hl 4 rfl) ?_
    obtain ⟨tq_111, hc, h⟩ := bw_b1_e h
    refine bw_callV S hK hZ hI (mX3_put l G cy g (a 9) (a 10) 18 3 tq_99 x6 1 x4 tq_111 hc) Y_X3_put V_X3_put l_X0_36 ⟨(Nat.le_of_ble_eq_true rfl), (Nat.le_of_ble_eq_true rfl)⟩ (q0 := 0) rfl rfl rfl (ws' := (bw_dW cy a tp tk tl ts tq_111 np nl)) (bw_pd4 cy a tp tk tl ts tq_99 np nl) (bw_pd4 cy a tp tk tl ts tq_111 np nl).symm rfl rfl hl.1 (rest := []) (st1 := []) rfl rfl (Nat.le_of_ble_eq_true rfl) dX0_queueLenders_111 ⟨(Nat.le_of_ble_eq_true rfl), (Nat.le_of_ble_eq_true rfl)⟩ (fun H locs hI => ?_)
    refine lv_aload_n hx hb dX0_queueLenders_114 rfl (lv_at hl 0 rfl) ?_
    refine bw_get S hK hI 0 4 rfl rfl (by decide) i_X0 f_X0_33 rfl dX0_queueLenders_115 ?_
    refine lv_iload hx hb dX0_queueLenders_118 (lv_at hl 6 rfl) ?_
    refine lv_iconst (v := 2) hx hb dX0_queueLenders_120 rfl ?_
    refine lv_iload hx hb dX0_queueLenders_121 (lv_at hl 5 rfl) ?_
    obtain ⟨tq_123, hc, h⟩ := bw_b1_e h
    refine bw_callV S hK hZ hI (mX3_put l G cy g (a 9) (a 10) 18 3 tq_111 x6 2 x5 tq_123 hc) Y_X3_put V_X3_put l_X0_36 ⟨(Nat.le_of_ble_eq_true rfl), (Nat.le_of_ble_eq_true rfl)⟩ (q0 := 0) rfl rfl rfl (ws' := (bw_dW cy a tp tk tl ts tq_123 np nl)) (bw_pd4 cy a tp tk tl ts tq_111 np nl) (bw_pd4 cy a tp tk tl ts tq_123 np nl).symm rfl rfl hl.1 (rest := []) (st1 := []) rfl rfl (Nat.le_of_ble_eq_true rfl) dX0_queueLenders_123 ⟨(Nat.le_of_ble_eq_true rfl), (Nat.le_of_ble_eq_true rfl)⟩ (fun H locs hI => ?_)
    obtain ⟨x2_126, e_126⟩ : ∃ y : Int32, y = x2 + 1 := ⟨_, rfl⟩
    have h := bw_let_e h e_126
    refine lv_iinc (v := x2_126) (lv' := [(2, .int x2_126), (0, .ref (a 0)), (1, .int x1), (3, .int x3), (4, .int x4), (5, .int x5), (6, .int x6)]) hx hb dX0_queueLenders_126 hl (k := 2) rfl (by rw [e_126]; rfl) (by decide) rfl (fun ls hl => ?_)
    clear e_126
    exact j129 tq_123 x1 x2_126 x3 k4 hk4 _ _ _ h hI (lv_sub hl [1,2,0,3] rfl)
  have l54 : ∀ (tq : bw_A1) (x1 : Int32) (x2 : Int32) (x3 : Int32) (x4 : Int32) (x5 : Int32) (k4 : bw_A1 → Int32 → Int32 → Option (Int32 × bw_A1)) (hk4 : ∀ (H : Heap) (locs : List Loc) (ls : Array Slot) (tq_ : bw_A1) (x2_ : Int32) (x3_ : Int32), k4 tq_ x2_ x3_ = some (r, tq') → bw_I G A s.heap (bw_dW cy a tp tk tl ts tq_ np nl) H locs → lv_has ls 7 [(0, .ref (a 0)), (1, .int x1), (2, .int x2_), (3, .int x3_)] → W p l e (bw_rm 2 46) s m [.ref (a 0), .int p1].toArray below meth c H locs 0 0 Q (F0 m 4 ls [])) (n : Nat) (H : Heap) (locs : List Loc) (ls : Array Slot) (x6 : Int32), lX0_queueLenders_54 k4 tp ts tq np x1 x2 x3 x4 x5 n x6 = some (r, tq') → bw_I G A s.heap (bw_dW cy a tp tk tl ts tq np nl) H locs → lv_has ls 7 [(0, .ref (a 0)), (1, .int x1), (2, .int x2), (3, .int x3), (4, .int x4), (5, .int x5), (6, .int x6)] → W p l e (bw_rm 2 46) s m [.ref (a 0), .int p1].toArray below meth c H locs 0 0 Q (F0 m 54 ls []) := by
    intro tq x1 x2 x3 x4 x5 k4 hk4 n
    induction n with
    | zero => intro H locs ls x6 h; exact bw_none h
    | succ n ih =>
      intro H locs ls x6 h hI hl
      have h : bX0_queueLenders_54 k4 (lX0_queueLenders_54 k4 tp ts tq np x1 x2 x3 x4 x5 n) tp ts tq np x1 x2 x3 x4 x5 x6 = some (r, tq') := h
      unfold bX0_queueLenders_54 at h
      refine lv_iload hx hb dX0_queueLenders_54 (lv_at hl 6 rfl) ?_
      refine lv_if_le (tgt := 82) hx hb dX0_queueLenders_56 (by decide) (fun c_56 => ?_) (fun c_56 => ?_)
      · rw [if_pos c_56] at h
        exact j82 tq x1 x2 x3 x4 x5 x6 k4 hk4 _ _ _ h hI (lv_sub hl [0,1,2,3,4,5,6] rfl)
      rw [if_neg c_56] at h
      refine lv_aload_n hx hb dX0_queueLenders_59 rfl (lv_at hl 0 rfl) ?_
      refine bw_get S hK hI 0 4 rfl rfl (by decide) i_X0 f_X0_33 rfl dX0_queueLenders_60 ?_
      refine lv_iload hx hb dX0_queueLenders_63 (lv_at hl 6 rfl) ?_
      refine lv_iconst (v := 1) hx hb dX0_queueLenders_65 rfl ?_
      refine lv_isub hx hb dX0_queueLenders_66 ?_
      refine lv_iconst (v := 2) hx hb dX0_queueLenders_67 rfl ?_
      obtain ⟨r68, hc, h⟩ := bw_b1_e h
      refine bw_callV S hK hZ hI (mX3_get l G cy g (a 9) (a 10) 18 3 tq (x6 - 1) 2 r68 hc) Y_X3_get V_X3_get l_X0_51 ⟨(Nat.le_of_ble_eq_true rfl), (Nat.le_of_ble_eq_true rfl)⟩ (q0 := 0) rfl rfl rfl (ws' := (bw_dW cy a tp tk tl ts tq np nl)) (bw_pd4 cy a tp tk tl ts tq np nl) (bw_pd4 cy a tp tk tl ts tq np nl).symm rfl rfl hl.1 (rest := []) (st1 := [.int r68]) rfl rfl (Nat.le_of_ble_eq_true rfl) dX0_queueLenders_68 ⟨(Nat.le_of_ble_eq_true rfl), (Nat.le_of_ble_eq_true rfl)⟩ (fun H locs hI => ?_)
      refine lv_iload hx hb dX0_queueLenders_71 (lv_at hl 5 rfl) ?_
      refine lv_icmp_ge (tgt := 82) hx hb dX0_queueLenders_73 (by decide) (fun c_73 => ?_) (fun c_73 => ?_)
      · rw [if_pos c_73] at h
        exact j82 tq x1 x2 x3 x4 x5 x6 k4 hk4 _ _ _ h hI (lv_sub hl [0,1,2,3,4,5,6] rfl)
      rw [if_neg c_73] at h
      obtain ⟨x6_76, e_76⟩ : ∃ y : Int32, y = x6 + (-1) := ⟨_, rfl⟩
      have h := bw_let_e h e_76
      refine lv_iinc (v := x6_76) (lv' := [(6, .int x6_76), (0, .ref (a 0)), (1, .int x1), (2, .int x2), (3, .int x3), (4, .int x4), (5, .int x5)]) hx hb dX0_queueLenders_76 hl (k := 6) rfl (by rw [e_76]; rfl) (by decide) rfl (fun ls hl => ?_)
      clear e_76
      refine lv_goto (tgt := 54) hx hb dX0_queueLenders_79 (by decide) ?_
      exact ih _ _ _ x6_76 h hI (lv_sub hl [1,2,3,4,5,6,0] rfl)
  have j35 : ∀ (tq : bw_A1) (x1 : Int32) (x2 : Int32) (x3 : Int32) (s0 : Int32) (k4 : bw_A1 → Int32 → Int32 → Option (Int32 × bw_A1)) (hk4 : ∀ (H : Heap) (locs : List Loc) (ls : Array Slot) (tq_ : bw_A1) (x2_ : Int32) (x3_ : Int32), k4 tq_ x2_ x3_ = some (r, tq') → bw_I G A s.heap (bw_dW cy a tp tk tl ts tq_ np nl) H locs → lv_has ls 7 [(0, .ref (a 0)), (1, .int x1), (2, .int x2_), (3, .int x3_)] → W p l e (bw_rm 2 46) s m [.ref (a 0), .int p1].toArray below meth c H locs 0 0 Q (F0 m 4 ls [])) (H : Heap) (locs : List Loc) (ls : Array Slot), jX0_queueLenders_35 k4 tp ts tq np x1 x2 x3 s0 = some (r, tq') → bw_I G A s.heap (bw_dW cy a tp tk tl ts tq np nl) H locs → lv_has ls 7 [(0, .ref (a 0)), (1, .int x1), (2, .int x2), (3, .int x3)] → W p l e (bw_rm 2 46) s m [.ref (a 0), .int p1].toArray below meth c H locs 0 0 Q (F0 m 35 ls [.int s0]) := by
    intro tq x1 x2 x3 s0 k4 hk4 H locs ls h hI hl
    unfold jX0_queueLenders_35 at h
    refine lv_istore (lv' := [(4, .int s0), (0, .ref (a 0)), (1, .int x1), (2, .int x2), (3, .int x3)]) hx hb dX0_queueLenders_35 hl (by decide) rfl (fun ls hl => ?_)
    refine lv_iload hx hb dX0_queueLenders_37 (lv_at hl 0 rfl) ?_
    refine lv_if_le (tgt := 129) hx hb dX0_queueLenders_39 (by decide) (fun c_39 => ?_) (fun c_39 => ?_)
    · rw [if_pos c_39] at h
      exact j129 tq x1 x2 x3 k4 hk4 _ _ _ h hI (lv_sub hl [1,2,3,4] rfl)
    rw [if_neg c_39] at h
    refine lv_aload_n hx hb dX0_queueLenders_42 rfl (lv_at hl 1 rfl) ?_
    refine lv_iload_n hx hb dX0_queueLenders_43 rfl (lv_at hl 4 rfl) ?_
    refine lv_iload hx hb dX0_queueLenders_44 (lv_at hl 0 rfl) ?_
    obtain ⟨r46, hc, h⟩ := bw_b1_e h
    refine bw_callV S hK hZ hI (mX0_weightOfLender l G cy g a tp tk tl ts tq np nl x3 s0 r46 hc) Y_X0_weightOfLender V_X0_weightOfLender l_X0_101 ⟨(Nat.le_of_ble_eq_true rfl), (Nat.le_of_ble_eq_true rfl)⟩ (q0 := 0) rfl rfl rfl (ws' := (bw_dW cy a tp tk tl ts tq np nl)) (bw_pS _) (bw_pS' _) rfl rfl hl.1 (rest := []) (st1 := [.int r46]) rfl rfl (Nat.le_of_ble_eq_true rfl) dX0_queueLenders_46 ⟨(Nat.le_of_ble_eq_true rfl), (Nat.le_of_ble_eq_true rfl)⟩ (fun H locs hI => ?_)
    refine lv_istore (lv' := [(5, .int r46), (4, .int s0), (0, .ref (a 0)), (1, .int x1), (2, .int x2), (3, .int x3)]) hx hb dX0_queueLenders_49 hl (by decide) rfl (fun ls hl => ?_)
    refine lv_iload_n hx hb dX0_queueLenders_51 rfl (lv_at hl 4 rfl) ?_
    refine lv_istore (lv' := [(6, .int x2), (5, .int r46), (4, .int s0), (0, .ref (a 0)), (1, .int x1), (2, .int x2), (3, .int x3)]) hx hb dX0_queueLenders_52 hl (by decide) rfl (fun ls hl => ?_)
    exact l54 tq x1 x2 x3 s0 r46 k4 hk4 bw_fu _ _ _ x2 h hI (lv_sub hl [3,4,5,6,2,1,0] rfl)
  have j34 : ∀ (tq : bw_A1) (x1 : Int32) (x2 : Int32) (x3 : Int32) (k4 : bw_A1 → Int32 → Int32 → Option (Int32 × bw_A1)) (hk4 : ∀ (H : Heap) (locs : List Loc) (ls : Array Slot) (tq_ : bw_A1) (x2_ : Int32) (x3_ : Int32), k4 tq_ x2_ x3_ = some (r, tq') → bw_I G A s.heap (bw_dW cy a tp tk tl ts tq_ np nl) H locs → lv_has ls 7 [(0, .ref (a 0)), (1, .int x1), (2, .int x2_), (3, .int x3_)] → W p l e (bw_rm 2 46) s m [.ref (a 0), .int p1].toArray below meth c H locs 0 0 Q (F0 m 4 ls [])) (H : Heap) (locs : List Loc) (ls : Array Slot), jX0_queueLenders_34 k4 tp ts tq np x1 x2 x3 = some (r, tq') → bw_I G A s.heap (bw_dW cy a tp tk tl ts tq np nl) H locs → lv_has ls 7 [(0, .ref (a 0)), (1, .int x1), (2, .int x2), (3, .int x3)] → W p l e (bw_rm 2 46) s m [.ref (a 0), .int p1].toArray below meth c H locs 0 0 Q (F0 m 34 ls []) := by
    intro tq x1 x2 x3 k4 hk4 H locs ls h hI hl
    unfold jX0_queueLenders_34 at h
    refine lv_iconst (v := 0) hx hb dX0_queueLenders_34 rfl ?_
    exact j35 tq x1 x2 x3 0 k4 hk4 _ _ _ h hI (lv_sub hl [0,1,2,3] rfl)
  have l4 : ∀ (x1 : Int32) (n : Nat) (H : Heap) (locs : List Loc) (ls : Array Slot) (tq : bw_A1) (x2 : Int32) (x3 : Int32), lX0_queueLenders_4 tp ts np x1 n tq x2 x3 = some (r, tq') → bw_I G A s.heap (bw_dW cy a tp tk tl ts tq np nl) H locs → lv_has ls 7 [(0, .ref (a 0)), (1, .int x1), (2, .int x2), (3, .int x3)] → W p l e (bw_rm 2 46) s m [.ref (a 0), .int p1].toArray below meth c H locs 0 0 Q (F0 m 4 ls []) := by
    intro x1 n
    induction n with
    | zero => intro H locs ls tq x2 x3 h; exact bw_none h
    | succ n ih =>
      intro H locs ls tq x2 x3 h hI hl
      have h : bX0_queueLenders_4  (lX0_queueLenders_4 tp ts np x1 n) tp ts np x1 tq x2 x3 = some (r, tq') := h
      unfold bX0_queueLenders_4 at h
      refine lv_iload_n hx hb dX0_queueLenders_4 rfl (lv_at hl 3 rfl) ?_
      refine lv_aload_n hx hb dX0_queueLenders_5 rfl (lv_at hl 0 rfl) ?_
      refine bw_get S hK hI 0 5 rfl rfl (by decide) i_X0 f_X0_44 rfl dX0_queueLenders_6 ?_
      refine lv_icmp_ge (tgt := 135) hx hb dX0_queueLenders_9 (by decide) (fun c_9 => ?_) (fun c_9 => ?_)
      · rw [if_pos c_9] at h
        refine lv_iload_n hx hb dX0_queueLenders_135 rfl (lv_at hl 2 rfl) ?_
        exact bw_iret (d := tq) (rr := (r, tq')) S hr hlocks h (fun q : bw_A1 => (bw_dW cy a tp tk tl ts q np nl)) hI rfl dX0_queueLenders_136 hQ
      rw [if_neg c_9] at h
      refine lv_iload_n hx hb dX0_queueLenders_12 rfl (lv_at hl 3 rfl) ?_
      refine lv_iload_n hx hb dX0_queueLenders_13 rfl (lv_at hl 1 rfl) ?_
      refine lv_icmp_eq (tgt := 34) hx hb dX0_queueLenders_14 (by decide) (fun c_14 => ?_) (fun c_14 => ?_)
      · rw [if_pos c_14] at h
        exact j34 tq x1 x2 x3 (lX0_queueLenders_4 tp ts np x1 n) ih _ _ _ h hI (lv_sub hl [0,1,2,3] rfl)
      rw [if_neg c_14] at h
      refine lv_aload_n hx hb dX0_queueLenders_17 rfl (lv_at hl 0 rfl) ?_
      refine lv_iload_n hx hb dX0_queueLenders_18 rfl (lv_at hl 3 rfl) ?_
      obtain ⟨r19, hc, h⟩ := bw_b1_e h
      refine bw_callV S hK hZ hI (mX0_isOpen l G cy g a tp tk tl ts tq np nl x3 r19 hc) Y_X0_isOpen V_X0_isOpen l_X0_55 ⟨(Nat.le_of_ble_eq_true rfl), (Nat.le_of_ble_eq_true rfl)⟩ (q0 := 0) rfl rfl rfl (ws' := (bw_dW cy a tp tk tl ts tq np nl)) (bw_pS _) (bw_pS' _) rfl rfl hl.1 (rest := []) (st1 := [.int r19]) rfl rfl (Nat.le_of_ble_eq_true rfl) dX0_queueLenders_19 ⟨(Nat.le_of_ble_eq_true rfl), (Nat.le_of_ble_eq_true rfl)⟩ (fun H locs hI => ?_)
      refine lv_if_eq (tgt := 34) hx hb dX0_queueLenders_22 (by decide) (fun c_22 => ?_) (fun c_22 => ?_)
      · rw [if_pos c_22] at h
        exact j34 tq x1 x2 x3 (lX0_queueLenders_4 tp ts np x1 n) ih _ _ _ h hI (lv_sub hl [0,1,2,3] rfl)
      rw [if_neg c_22] at h
      refine lv_aload_n hx hb dX0_queueLenders_25 rfl (lv_at hl 0 rfl) ?_
      refine lv_iload_n hx hb dX0_queueLenders_26 rfl (lv_at hl 3 rfl) ?_
      refine lv_iconst (v := 0) hx hb dX0_queueLenders_27 rfl ?_
      obtain ⟨r28, hc, h⟩ := bw_b1_e h
      refine bw_callV S hK hZ hI (mX0_lendableDays l G cy g a tp tk tl ts tq np nl x3 0 r28 hc) Y_X0_lendableDays V_X0_lendableDays l_X0_59 ⟨(Nat.le_of_ble_eq_true rfl), (Nat.le_of_ble_eq_true rfl)⟩ (q0 := 0) rfl rfl rfl (ws' := (bw_dW cy a tp tk tl ts tq np nl)) (bw_pS _) (bw_pS' _) rfl rfl hl.1 (rest := []) (st1 := [.int r28]) rfl rfl (Nat.le_of_ble_eq_true rfl) dX0_queueLenders_28 ⟨(Nat.le_of_ble_eq_true rfl), (Nat.le_of_ble_eq_true rfl)⟩ (fun H locs hI => ?_)
      refine lv_goto (tgt := 35) hx hb dX0_queueLenders_31 (by decide) ?_
      exact j35 tq x1 x2 x3 r28 (lX0_queueLenders_4 tp ts np x1 n) ih _ _ _ h hI (lv_sub hl [0,1,2,3] rfl)
  unfold fX0_queueLenders at h
  refine lv_iconst (v := 0) hx hb dX0_queueLenders_0 rfl ?_
  refine lv_istore_n (lv' := [(2, .int 0), (0, .ref (a 0)), (1, .int p1)]) hx hb dX0_queueLenders_1 rfl hl (by decide) rfl (fun ls hl => ?_)
  refine lv_iconst (v := 0) hx hb dX0_queueLenders_2 rfl ?_
  refine lv_istore_n (lv' := [(3, .int 0), (2, .int 0), (0, .ref (a 0)), (1, .int p1)]) hx hb dX0_queueLenders_3 rfl hl (by decide) rfl (fun ls hl => ?_)
  exact l4 p1 bw_fu _ _ _ tq 0 0 h hI (lv_sub hl [2,3,1,0] rfl)
set_option maxHeartbeats 4000000 in
set_option maxRecDepth 100000 in
theorem mX0_placeOfLoan (l : Launch) (G : va_G) (cy : Nat → ClassId) (g : Nat) (a : Nat → Nat) (tp : bw_A1) (tk : bw_A1) (tl : bw_A1) (ts : bw_A1) (tq : bw_A1) (np : Int32) (nl : Int32) (p1 : Int32) (p2 : Int32) (r : Int32) (h : fX0_placeOfLoan tl nl p1 p2 = some r) : bw_M l yX0_placeOfLoan cX0_placeOfLoan 4 (some .int) 1 23 G cy g [.ref (a 0), .int p1, .int p2] (bw_dW cy a tp tk tl ts tq np nl) (some (.int r)) (bw_dW cy a tp tk tl ts tq np nl) := by
  refine bw_ofW (by decide +kernel) RX0 rfl (Nat.le_of_ble_eq_true rfl) ?_
  intro p e s m below meth c ls S hr hlocks hK hZ hI hl
  have hx := S.1
  have hb := S.2.1
  have hown := S.2.2.2.1
  have hts := S.2.2.2.2
  generalize va_A _ s.heap.size = A at hI hZ ⊢
  generalize hQ : MQ below _ _ s 0 0 A = Q
  have hl : lv_has ls 4 [(0, .ref (a 0)), (1, .int p1), (2, .int p2)] := hl
  have j38 : ∀ (x1 : Int32) (x2 : Int32) (x3 : Int32) (k2 : Int32 → Option Int32) (hk2 : ∀ (H : Heap) (locs : List Loc) (ls : Array Slot) (x3_ : Int32), k2 x3_ = some r → bw_I G A s.heap (bw_dW cy a tp tk tl ts tq np nl) H locs → lv_has ls 4 [(0, .ref (a 0)), (1, .int x1), (2, .int x2), (3, .int x3_)] → W p l e (bw_rm 1 23) s m [.ref (a 0), .int p1, .int p2].toArray below meth c H locs 0 0 Q (F0 m 2 ls [])) (H : Heap) (locs : List Loc) (ls : Array Slot), jX0_placeOfLoan_38 k2 tl nl x1 x2 x3 = some r → bw_I G A s.heap (bw_dW cy a tp tk tl ts tq np nl) H locs → lv_has ls 4 [(0, .ref (a 0)), (1, .int x1), (2, .int x2), (3, .int x3)] → W p l e (bw_rm 1 23) s m [.ref (a 0), .int p1, .int p2].toArray below meth c H locs 0 0 Q (F0 m 38 ls []) := by
    intro x1 x2 x3 k2 hk2 H locs ls h hI hl
    unfold jX0_placeOfLoan_38 at h
    obtain ⟨x3_38, e_38⟩ : ∃ y : Int32, y = x3 + 1 := ⟨_, rfl⟩
    have h := bw_let_e h e_38
    refine lv_iinc (v := x3_38) (lv' := [(3, .int x3_38), (0, .ref (a 0)), (1, .int x1), (2, .int x2)]) hx hb dX0_placeOfLoan_38 hl (k := 3) rfl (by rw [e_38]; rfl) (by decide) rfl (fun ls hl => ?_)
    clear e_38
    refine lv_goto (tgt := 2) hx hb dX0_placeOfLoan_41 (by decide) ?_
    exact hk2 _ _ _ x3_38 h hI (lv_sub hl [1,2,3,0] rfl)
  have l2 : ∀ (x1 : Int32) (x2 : Int32) (n : Nat) (H : Heap) (locs : List Loc) (ls : Array Slot) (x3 : Int32), lX0_placeOfLoan_2 tl nl x1 x2 n x3 = some r → bw_I G A s.heap (bw_dW cy a tp tk tl ts tq np nl) H locs → lv_has ls 4 [(0, .ref (a 0)), (1, .int x1), (2, .int x2), (3, .int x3)] → W p l e (bw_rm 1 23) s m [.ref (a 0), .int p1, .int p2].toArray below meth c H locs 0 0 Q (F0 m 2 ls []) := by
    intro x1 x2 n
    induction n with
    | zero => intro H locs ls x3 h; exact bw_none h
    | succ n ih =>
      intro H locs ls x3 h hI hl
      have h : bX0_placeOfLoan_2  (lX0_placeOfLoan_2 tl nl x1 x2 n) tl nl x1 x2 x3 = some r := h
      unfold bX0_placeOfLoan_2 at h
      refine lv_iload_n hx hb dX0_placeOfLoan_2 rfl (lv_at hl 3 rfl) ?_
      refine lv_aload_n hx hb dX0_placeOfLoan_3 rfl (lv_at hl 0 rfl) ?_
      refine bw_get S hK hI 0 6 rfl rfl (by decide) i_X0 f_X0_48 rfl dX0_placeOfLoan_4 ?_
      refine lv_icmp_ge (tgt := 44) hx hb dX0_placeOfLoan_7 (by decide) (fun c_7 => ?_) (fun c_7 => ?_)
      · rw [if_pos c_7] at h
        refine lv_iconst (v := (-1)) hx hb dX0_placeOfLoan_44 rfl ?_
        exact bw_iretP S hr hlocks h hI rfl dX0_placeOfLoan_45 hQ
      rw [if_neg c_7] at h
      refine lv_aload_n hx hb dX0_placeOfLoan_10 rfl (lv_at hl 0 rfl) ?_
      refine bw_get S hK hI 0 2 rfl rfl (by decide) i_X0 f_X0_23 rfl dX0_placeOfLoan_11 ?_
      refine lv_iload_n hx hb dX0_placeOfLoan_14 rfl (lv_at hl 3 rfl) ?_
      refine lv_iconst (v := 0) hx hb dX0_placeOfLoan_15 rfl ?_
      obtain ⟨r16, hc, h⟩ := bw_b1_e h
      refine bw_callV S hK hZ hI (mX3_get l G cy g (a 5) (a 6) 90 3 tl x3 0 r16 hc) Y_X3_get V_X3_get l_X0_51 ⟨(Nat.le_of_ble_eq_true rfl), (Nat.le_of_ble_eq_true rfl)⟩ (q0 := 0) rfl rfl rfl (ws' := (bw_dW cy a tp tk tl ts tq np nl)) (bw_pd2 cy a tp tk tl ts tq np nl) (bw_pd2 cy a tp tk tl ts tq np nl).symm rfl rfl hl.1 (rest := []) (st1 := [.int r16]) rfl rfl (Nat.le_of_ble_eq_true rfl) dX0_placeOfLoan_16 ⟨(Nat.le_of_ble_eq_true rfl), (Nat.le_of_ble_eq_true rfl)⟩ (fun H locs hI => ?_)
      refine lv_iload_n hx hb dX0_placeOfLoan_19 rfl (lv_at hl 1 rfl) ?_
      refine lv_icmp_ne (tgt := 38) hx hb dX0_placeOfLoan_20 (by decide) (fun c_20 => ?_) (fun c_20 => ?_)
      · rw [if_neg c_20] at h
        exact j38 x1 x2 x3 (lX0_placeOfLoan_2 tl nl x1 x2 n) ih _ _ _ h hI (lv_sub hl [0,1,2,3] rfl)
      rw [if_pos c_20] at h
      refine lv_aload_n hx hb dX0_placeOfLoan_23 rfl (lv_at hl 0 rfl) ?_
      refine bw_get S hK hI 0 2 rfl rfl (by decide) i_X0 f_X0_23 rfl dX0_placeOfLoan_24 ?_
      refine lv_iload_n hx hb dX0_placeOfLoan_27 rfl (lv_at hl 3 rfl) ?_
      refine lv_iconst (v := 1) hx hb dX0_placeOfLoan_28 rfl ?_
      obtain ⟨r29, hc, h⟩ := bw_b1_e h
      refine bw_callV S hK hZ hI (mX3_get l G cy g (a 5) (a 6) 90 3 tl x3 1 r29 hc) Y_X3_get V_X3_get l_X0_51 ⟨(Nat.le_of_ble_eq_true rfl), (Nat.le_of_ble_eq_true rfl)⟩ (q0 := 0) rfl rfl rfl (ws' := (bw_dW cy a tp tk tl ts tq np nl)) (bw_pd2 cy a tp tk tl ts tq np nl) (bw_pd2 cy a tp tk tl ts tq np nl).symm rfl rfl hl.1 (rest := []) (st1 := [.int r29]) rfl rfl (Nat.le_of_ble_eq_true rfl) dX0_placeOfLoan_29 ⟨(Nat.le_of_ble_eq_true rfl), (Nat.le_of_ble_eq_true rfl)⟩ (fun H locs hI => ?_)
      refine lv_iload_n hx hb dX0_placeOfLoan_32 rfl (lv_at hl 2 rfl) ?_
      refine lv_icmp_ne (tgt := 38) hx hb dX0_placeOfLoan_33 (by decide) (fun c_33 => ?_) (fun c_33 => ?_)
      · rw [if_neg c_33] at h
        exact j38 x1 x2 x3 (lX0_placeOfLoan_2 tl nl x1 x2 n) ih _ _ _ h hI (lv_sub hl [0,1,2,3] rfl)
      rw [if_pos c_33] at h
      refine lv_iload_n hx hb dX0_placeOfLoan_36 rfl (lv_at hl 3 rfl) ?_
      exact bw_iretP S hr hlocks h hI rfl dX0_placeOfLoan_37 hQ
  unfold fX0_placeOfLoan at h
  refine lv_iconst (v := 0) hx hb dX0_placeOfLoan_0 rfl ?_
  refine lv_istore_n (lv' := [(3, .int 0), (0, .ref (a 0)), (1, .int p1), (2, .int p2)]) hx hb dX0_placeOfLoan_1 rfl hl (by decide) rfl (fun ls hl => ?_)
  exact l2 p1 p2 bw_fu _ _ _ 0 h hI (lv_sub hl [1,2,3,0] rfl)
set_option maxHeartbeats 4000000 in
set_option maxRecDepth 100000 in
theorem mX0_lendDays (l : Launch) (G : va_G) (cy : Nat → ClassId) (g : Nat) (a : Nat → Nat) (tp : bw_A1) (tk : bw_A1) (tl : bw_A1) (ts : bw_A1) (tq : bw_A1) (np : Int32) (nl : Int32) (p1 : Int32) (p2 : Int32) (p3 : Int32) (tp' : bw_A1) (tl' : bw_A1) (nl' : Int32) (h : fX0_lendDays tp tl nl p1 p2 p3 = some (tp', tl', nl')) : bw_M l yX0_lendDays cX0_lendDays 5 none 2 47 G cy g [.ref (a 0), .int p1, .int p2, .int p3] (bw_dW cy a tp tk tl ts tq np nl) none (bw_dW cy a tp' tk tl' ts tq np nl') := by
  refine bw_ofW (by decide +kernel) RX0 rfl (Nat.le_of_ble_eq_true rfl) ?_
  intro p e s m below meth c ls S hr hlocks hK hZ hI hl
  have hx := S.1
  have hb := S.2.1
  have hown := S.2.2.2.1
  have hts := S.2.2.2.2
  generalize va_A _ s.heap.size = A at hI hZ ⊢
  generalize hQ : MQ below _ _ s 0 0 A = Q
  have hl : lv_has ls 5 [(0, .ref (a 0)), (1, .int p1), (2, .int p2), (3, .int p3)] := hl
  have j63 : ∀ (tp : bw_A1) (tl : bw_A1) (nl : Int32) (x1 : Int32) (x2 : Int32) (x3 : Int32) (x4 : Int32) (H : Heap) (locs : List Loc) (ls : Array Slot), jX0_lendDays_63 tp tl nl x1 x2 x3 x4 = some (tp', tl', nl') → bw_I G A s.heap (bw_dW cy a tp tk tl ts tq np nl) H locs → lv_has ls 5 [(0, .ref (a 0)), (1, .int x1), (2, .int x2), (3, .int x3), (4, .int x4)] → W p l e (bw_rm 2 47) s m [.ref (a 0), .int p1, .int p2, .int p3].toArray below meth c H locs 0 0 Q (F0 m 63 ls []) := by
    intro tp tl nl x1 x2 x3 x4 H locs ls h hI hl
    unfold jX0_lendDays_63 at h
    refine lv_aload_n hx hb dX0_lendDays_63 rfl (lv_at hl 0 rfl) ?_
    refine lv_iload hx hb dX0_lendDays_64 (lv_at hl 4 rfl) ?_
    refine lv_iload_n hx hb dX0_lendDays_66 rfl (lv_at hl 3 rfl) ?_
    obtain ⟨tp_67, tl_67, nl_67, hc, h⟩ := bw_b3_e h
    refine bw_callV S hK hZ hI (mX0_changeLoan l G cy g a tp tk tl ts tq np nl x4 x3 tp_67 tl_67 nl_67 hc) Y_X0_changeLoan V_X0_changeLoan l_X0_111 ⟨(Nat.le_of_ble_eq_true rfl), (Nat.le_of_ble_eq_true rfl)⟩ (q0 := 0) rfl rfl rfl (ws' := (bw_dW cy a tp_67 tk tl_67 ts tq np nl_67)) (bw_pS _) (bw_pS' _) rfl rfl hl.1 (rest := []) (st1 := []) rfl rfl (Nat.le_of_ble_eq_true rfl) dX0_lendDays_67 ⟨(Nat.le_of_ble_eq_true rfl), (Nat.le_of_ble_eq_true rfl)⟩ (fun H locs hI => ?_)
    refine lv_aload_n hx hb dX0_lendDays_70 rfl (lv_at hl 0 rfl) ?_
    refine lv_iload_n hx hb dX0_lendDays_71 rfl (lv_at hl 1 rfl) ?_
    refine lv_iload_n hx hb dX0_lendDays_72 rfl (lv_at hl 2 rfl) ?_
    refine lv_iload_n hx hb dX0_lendDays_73 rfl (lv_at hl 3 rfl) ?_
    obtain ⟨tp_74, hc, h⟩ := bw_b1_e h
    refine bw_callV S hK hZ hI (mX0_moveDays l G cy g a tp_67 tk tl_67 ts tq np nl_67 x1 x2 x3 tp_74 hc) Y_X0_moveDays V_X0_moveDays l_X0_114 ⟨(Nat.le_of_ble_eq_true rfl), (Nat.le_of_ble_eq_true rfl)⟩ (q0 := 0) rfl rfl rfl (ws' := (bw_dW cy a tp_74 tk tl_67 ts tq np nl_67)) (bw_pS _) (bw_pS' _) rfl rfl hl.1 (rest := []) (st1 := []) rfl rfl (Nat.le_of_ble_eq_true rfl) dX0_lendDays_74 ⟨(Nat.le_of_ble_eq_true rfl), (Nat.le_of_ble_eq_true rfl)⟩ (fun H locs hI => ?_)
    exact bw_vret (d := (tp_74, tl_67, nl_67)) (rr := (tp', tl', nl')) S hr hlocks h (fun q : (bw_A1 × bw_A1 × Int32) => (bw_dW cy a q.1 tk q.2.1 ts tq np q.2.2)) hI dX0_lendDays_77 hQ
  unfold fX0_lendDays at h
  refine lv_aload_n hx hb dX0_lendDays_0 rfl (lv_at hl 0 rfl) ?_
  refine lv_iload_n hx hb dX0_lendDays_1 rfl (lv_at hl 1 rfl) ?_
  refine lv_iload_n hx hb dX0_lendDays_2 rfl (lv_at hl 2 rfl) ?_
  obtain ⟨r3, hc, h⟩ := bw_b1_e h
  refine bw_callV S hK hZ hI (mX0_placeOfLoan l G cy g a tp tk tl ts tq np nl p1 p2 r3 hc) Y_X0_placeOfLoan V_X0_placeOfLoan l_X0_108 ⟨(Nat.le_of_ble_eq_true rfl), (Nat.le_of_ble_eq_true rfl)⟩ (q0 := 0) rfl rfl rfl (ws' := (bw_dW cy a tp tk tl ts tq np nl)) (bw_pS _) (bw_pS' _) rfl rfl hl.1 (rest := []) (st1 := [.int r3]) rfl rfl (Nat.le_of_ble_eq_true rfl) dX0_lendDays_3 ⟨(Nat.le_of_ble_eq_true rfl), (Nat.le_of_ble_eq_true rfl)⟩ (fun H locs hI => ?_)
  refine lv_istore (lv' := [(4, .int r3), (0, .ref (a 0)), (1, .int p1), (2, .int p2), (3, .int p3)]) hx hb dX0_lendDays_6 hl (by decide) rfl (fun ls hl => ?_)
  refine lv_iload hx hb dX0_lendDays_8 (lv_at hl 0 rfl) ?_
  refine lv_iconst (v := (-1)) hx hb dX0_lendDays_10 rfl ?_
  refine lv_icmp_ne (tgt := 63) hx hb dX0_lendDays_11 (by decide) (fun c_11 => ?_) (fun c_11 => ?_)
  · rw [if_neg c_11] at h
    exact j63 tp tl nl p1 p2 p3 r3 _ _ _ h hI (lv_sub hl [1,2,3,4,0] rfl)
  rw [if_pos c_11] at h
  refine lv_aload_n hx hb dX0_lendDays_14 rfl (lv_at hl 1 rfl) ?_
  refine bw_get S hK hI 0 6 rfl rfl (by decide) i_X0 f_X0_48 rfl dX0_lendDays_15 ?_
  refine lv_istore (lv' := [(4, .int nl), (0, .ref (a 0)), (1, .int p1), (2, .int p2), (3, .int p3)]) hx hb dX0_lendDays_18 hl (by decide) rfl (fun ls hl => ?_)
  refine lv_aload_n hx hb dX0_lendDays_20 rfl (lv_at hl 1 rfl) ?_
  refine lv_dup hx hb dX0_lendDays_21 rfl ?_
  refine bw_get S hK hI 0 6 rfl rfl (by decide) i_X0 f_X0_48 rfl dX0_lendDays_22 ?_
  refine lv_iconst (v := 1) hx hb dX0_lendDays_25 rfl ?_
  refine lv_iadd hx hb dX0_lendDays_26 ?_
  refine lv_topi (fun nl_27 e_27 => ?_)
  have h := bw_let_e h e_27
  clear e_27
  refine bw_put S hK hI 0 6 (ws' := (bw_dW cy a tp tk tl ts tq np nl_27)) tyX0 tyX0_ok nmX0 rfl rfl (by decide) i_X0 f_X0_48 rfl rfl rfl rfl (Nat.le_of_ble_eq_true rfl) rfl dX0_lendDays_27 (fun H locs hI => ?_)
  refine lv_aload_n hx hb dX0_lendDays_30 rfl (lv_at hl 1 rfl) ?_
  refine bw_get S hK hI 0 2 rfl rfl (by decide) i_X0 f_X0_23 rfl dX0_lendDays_31 ?_
  refine lv_iload hx hb dX0_lendDays_34 (lv_at hl 0 rfl) ?_
  refine lv_iconst (v := 0) hx hb dX0_lendDays_36 rfl ?_
  refine lv_iload_n hx hb dX0_lendDays_37 rfl (lv_at hl 2 rfl) ?_
  obtain ⟨tl_38, hc, h⟩ := bw_b1_e h
  refine bw_callV S hK hZ hI (mX3_put l G cy g (a 5) (a 6) 90 3 tl nl 0 p1 tl_38 hc) Y_X3_put V_X3_put l_X0_36 ⟨(Nat.le_of_ble_eq_true rfl), (Nat.le_of_ble_eq_true rfl)⟩ (q0 := 0) rfl rfl rfl (ws' := (bw_dW cy a tp tk tl_38 ts tq np nl_27)) (bw_pd2 cy a tp tk tl ts tq np nl_27) (bw_pd2 cy a tp tk tl_38 ts tq np nl_27).symm rfl rfl hl.1 (rest := []) (st1 := []) rfl rfl (Nat.le_of_ble_eq_true rfl) dX0_lendDays_38 ⟨(Nat.le_of_ble_eq_true rfl), (Nat.le_of_ble_eq_true rfl)⟩ (fun H locs hI => ?_)
  refine lv_aload_n hx hb dX0_lendDays_41 rfl (lv_at hl 1 rfl) ?_
  refine bw_get S hK hI 0 2 rfl rfl (by decide) i_X0 f_X0_23 rfl dX0_lendDays_42 ?_
  refine lv_iload hx hb dX0_lendDays_45 (lv_at hl 0 rfl) ?_
  refine lv_iconst (v := 1) hx hb dX0_lendDays_47 rfl ?_
  refine lv_iload_n hx hb dX0_lendDays_48 rfl (lv_at hl 3 rfl) ?_
  obtain ⟨tl_49, hc, h⟩ := bw_b1_e h
  refine bw_callV S hK hZ hI (mX3_put l G cy g (a 5) (a 6) 90 3 tl_38 nl 1 p2 tl_49 hc) Y_X3_put V_X3_put l_X0_36 ⟨(Nat.le_of_ble_eq_true rfl), (Nat.le_of_ble_eq_true rfl)⟩ (q0 := 0) rfl rfl rfl (ws' := (bw_dW cy a tp tk tl_49 ts tq np nl_27)) (bw_pd2 cy a tp tk tl_38 ts tq np nl_27) (bw_pd2 cy a tp tk tl_49 ts tq np nl_27).symm rfl rfl hl.1 (rest := []) (st1 := []) rfl rfl (Nat.le_of_ble_eq_true rfl) dX0_lendDays_49 ⟨(Nat.le_of_ble_eq_true rfl), (Nat.le_of_ble_eq_true rfl)⟩ (fun H locs hI => ?_)
  refine lv_aload_n hx hb dX0_lendDays_52 rfl (lv_at hl 1 rfl) ?_
  refine bw_get S hK hI 0 2 rfl rfl (by decide) i_X0 f_X0_23 rfl dX0_lendDays_53 ?_
  refine lv_iload hx hb dX0_lendDays_56 (lv_at hl 0 rfl) ?_
  refine lv_iconst (v := 2) hx hb dX0_lendDays_58 rfl ?_
  refine lv_iconst (v := 0) hx hb dX0_lendDays_59 rfl ?_
  obtain ⟨tl_60, hc, h⟩ := bw_b1_e h
  refine bw_callV S hK hZ hI (mX3_put l G cy g (a 5) (a 6) 90 3 tl_49 nl 2 0 tl_60 hc) Y_X3_put V_X3_put l_X0_36 ⟨(Nat.le_of_ble_eq_true rfl), (Nat.le_of_ble_eq_true rfl)⟩ (q0 := 0) rfl rfl rfl (ws' := (bw_dW cy a tp tk tl_60 ts tq np nl_27)) (bw_pd2 cy a tp tk tl_49 ts tq np nl_27) (bw_pd2 cy a tp tk tl_60 ts tq np nl_27).symm rfl rfl hl.1 (rest := []) (st1 := []) rfl rfl (Nat.le_of_ble_eq_true rfl) dX0_lendDays_60 ⟨(Nat.le_of_ble_eq_true rfl), (Nat.le_of_ble_eq_true rfl)⟩ (fun H locs hI => ?_)
  exact j63 tp tl_60 nl_27 p1 p2 p3 nl _ _ _ h hI (lv_sub hl [1,2,3,4,0] rfl)
set_option maxHeartbeats 4000000 in
set_option maxRecDepth 100000 in
theorem mX0_borrow (l : Launch) (G : va_G) (cy : Nat → ClassId) (g : Nat) (a : Nat → Nat) (tp : bw_A1) (tk : bw_A1) (tl : bw_A1) (ts : bw_A1) (tq : bw_A1) (np : Int32) (nl : Int32) (p1 : Int32) (p2 : Int32) (r : Int32) (tp' : bw_A1) (tl' : bw_A1) (tq' : bw_A1) (nl' : Int32) (h : fX0_borrow tp tl ts tq np nl p1 p2 = some (r, tp', tl', tq', nl')) : bw_M l yX0_borrow cX0_borrow 7 (some .int) 3 72 G cy g [.ref (a 0), .int p1, .int p2] (bw_dW cy a tp tk tl ts tq np nl) (some (.int r)) (bw_dW cy a tp' tk tl' ts tq' np nl') := by
  refine bw_ofW (by decide +kernel) RX0 rfl (Nat.le_of_ble_eq_true rfl) ?_
  intro p e s m below meth c ls S hr hlocks hK hZ hI hl
  have hx := S.1
  have hb := S.2.1
  have hown := S.2.2.2.1
  have hts := S.2.2.2.2
  generalize va_A _ s.heap.size = A at hI hZ ⊢
  generalize hQ : MQ below _ _ s 0 0 A = Q
  have hl : lv_has ls 7 [(0, .ref (a 0)), (1, .int p1), (2, .int p2)] := hl
  have l12 : ∀ (tq : bw_A1) (x1 : Int32) (x2 : Int32) (x3 : Int32) (n : Nat) (H : Heap) (locs : List Loc) (ls : Array Slot) (tp : bw_A1) (tl : bw_A1) (nl : Int32) (x4 : Int32) (x5 : Int32), lX0_borrow_12 ts tq np x1 x2 x3 n tp tl nl x4 x5 = some (r, tp', tl', tq', nl') → bw_I G A s.heap (bw_dW cy a tp tk tl ts tq np nl) H locs → lv_has ls 7 [(0, .ref (a 0)), (1, .int x1), (2, .int x2), (3, .int x3), (4, .int x4), (5, .int x5)] → W p l e (bw_rm 3 72) s m [.ref (a 0), .int p1, .int p2].toArray below meth c H locs 0 0 Q (F0 m 12 ls []) := by
    intro tq x1 x2 x3 n
    induction n with
    | zero => intro H locs ls tp tl nl x4 x5 h; exact bw_none h
    | succ n ih =>
      intro H locs ls tp tl nl x4 x5 h hI hl
      have h : bX0_borrow_12  (lX0_borrow_12 ts tq np x1 x2 x3 n) ts tq np x1 x2 x3 tp tl nl x4 x5 = some (r, tp', tl', tq', nl') := h
      unfold bX0_borrow_12 at h
      refine lv_iload hx hb dX0_borrow_12 (lv_at hl 5 rfl) ?_
      refine lv_iload_n hx hb dX0_borrow_14 rfl (lv_at hl 3 rfl) ?_
      refine lv_icmp_ge (tgt := 80) hx hb dX0_borrow_15 (by decide) (fun c_15 => ?_) (fun c_15 => ?_)
      · rw [if_pos c_15] at h
        refine lv_iload hx hb dX0_borrow_80 (lv_at hl 4 rfl) ?_
        exact bw_iret (d := (tp, tl, tq, nl)) (rr := (r, tp', tl', tq', nl')) S hr hlocks h (fun q : (bw_A1 × bw_A1 × bw_A1 × Int32) => (bw_dW cy a q.1 tk q.2.1 ts q.2.2.1 np q.2.2.2)) hI rfl dX0_borrow_82 hQ
      rw [if_neg c_15] at h
      refine lv_iload hx hb dX0_borrow_18 (lv_at hl 4 rfl) ?_
      refine lv_iload_n hx hb dX0_borrow_20 rfl (lv_at hl 2 rfl) ?_
      refine lv_icmp_ge (tgt := 80) hx hb dX0_borrow_21 (by decide) (fun c_21 => ?_) (fun c_21 => ?_)
      · rw [if_pos c_21] at h
        refine lv_iload hx hb dX0_borrow_80 (lv_at hl 4 rfl) ?_
        exact bw_iret (d := (tp, tl, tq, nl)) (rr := (r, tp', tl', tq', nl')) S hr hlocks h (fun q : (bw_A1 × bw_A1 × bw_A1 × Int32) => (bw_dW cy a q.1 tk q.2.1 ts q.2.2.1 np q.2.2.2)) hI rfl dX0_borrow_82 hQ
      rw [if_neg c_21] at h
      refine lv_iload_n hx hb dX0_borrow_24 rfl (lv_at hl 2 rfl) ?_
      refine lv_iload hx hb dX0_borrow_25 (lv_at hl 4 rfl) ?_
      refine lv_isub hx hb dX0_borrow_27 ?_
      refine lv_aload_n hx hb dX0_borrow_28 rfl (lv_at hl 0 rfl) ?_
      refine bw_get S hK hI 0 4 rfl rfl (by decide) i_X0 f_X0_33 rfl dX0_borrow_29 ?_
      refine lv_iload hx hb dX0_borrow_32 (lv_at hl 5 rfl) ?_
      refine lv_iconst (v := 1) hx hb dX0_borrow_34 rfl ?_
      obtain ⟨r35, hc, h⟩ := bw_b1_e h
      refine bw_callV S hK hZ hI (mX3_get l G cy g (a 9) (a 10) 18 3 tq x5 1 r35 hc) Y_X3_get V_X3_get l_X0_51 ⟨(Nat.le_of_ble_eq_true rfl), (Nat.le_of_ble_eq_true rfl)⟩ (q0 := 0) rfl rfl rfl (ws' := (bw_dW cy a tp tk tl ts tq np nl)) (bw_pd4 cy a tp tk tl ts tq np nl) (bw_pd4 cy a tp tk tl ts tq np nl).symm rfl rfl hl.1 (rest := [.int (x2 - x4)]) (st1 := [.int r35, .int (x2 - x4)]) rfl rfl (Nat.le_of_ble_eq_true rfl) dX0_borrow_35 ⟨(Nat.le_of_ble_eq_true rfl), (Nat.le_of_ble_eq_true rfl)⟩ (fun H locs hI => ?_)
      refine bw_mmin S (rest := []) hl.1 l_X0_79 l_JM_min_s l_JM_i l_JM_min_c (Nat.le_of_ble_eq_true rfl) (Nat.le_of_ble_eq_true rfl) ⟨(Nat.le_of_ble_eq_true rfl), (Nat.le_of_ble_eq_true rfl)⟩ dX0_borrow_38 ?_
      refine lv_topi (fun x6_41 e_41 => ?_)
      have h := bw_let_e h e_41
      clear e_41
      refine lv_istore (lv' := [(6, .int x6_41), (0, .ref (a 0)), (1, .int x1), (2, .int x2), (3, .int x3), (4, .int x4), (5, .int x5)]) hx hb dX0_borrow_41 hl (by decide) rfl (fun ls hl => ?_)
      refine lv_aload_n hx hb dX0_borrow_43 rfl (lv_at hl 1 rfl) ?_
      refine lv_aload_n hx hb dX0_borrow_44 rfl (lv_at hl 1 rfl) ?_
      refine bw_get S hK hI 0 4 rfl rfl (by decide) i_X0 f_X0_33 rfl dX0_borrow_45 ?_
      refine lv_iload hx hb dX0_borrow_48 (lv_at hl 6 rfl) ?_
      refine lv_iconst (v := 0) hx hb dX0_borrow_50 rfl ?_
      obtain ⟨r51, hc, h⟩ := bw_b1_e h
      refine bw_callV S hK hZ hI (mX3_get l G cy g (a 9) (a 10) 18 3 tq x5 0 r51 hc) Y_X3_get V_X3_get l_X0_51 ⟨(Nat.le_of_ble_eq_true rfl), (Nat.le_of_ble_eq_true rfl)⟩ (q0 := 0) rfl rfl rfl (ws' := (bw_dW cy a tp tk tl ts tq np nl)) (bw_pd4 cy a tp tk tl ts tq np nl) (bw_pd4 cy a tp tk tl ts tq np nl).symm rfl rfl hl.1 (rest := [.ref (a 0)]) (st1 := [.int r51, .ref (a 0)]) rfl rfl (Nat.le_of_ble_eq_true rfl) dX0_borrow_51 ⟨(Nat.le_of_ble_eq_true rfl), (Nat.le_of_ble_eq_true rfl)⟩ (fun H locs hI => ?_)
      refine lv_iload_n hx hb dX0_borrow_54 rfl (lv_at hl 2 rfl) ?_
      refine lv_iload hx hb dX0_borrow_55 (lv_at hl 0 rfl) ?_
      obtain ⟨tp_57, tl_57, nl_57, hc, h⟩ := bw_b3_e h
      refine bw_callV S hK hZ hI (mX0_lendDays l G cy g a tp tk tl ts tq np nl r51 x1 x6_41 tp_57 tl_57 nl_57 hc) Y_X0_lendDays V_X0_lendDays l_X0_98 ⟨(Nat.le_of_ble_eq_true rfl), (Nat.le_of_ble_eq_true rfl)⟩ (q0 := 0) rfl rfl rfl (ws' := (bw_dW cy a tp_57 tk tl_57 ts tq np nl_57)) (bw_pS _) (bw_pS' _) rfl rfl hl.1 (rest := []) (st1 := []) rfl rfl (Nat.le_of_ble_eq_true rfl) dX0_borrow_57 ⟨(Nat.le_of_ble_eq_true rfl), (Nat.le_of_ble_eq_true rfl)⟩ (fun H locs hI => ?_)
      refine lv_aload_n hx hb dX0_borrow_60 rfl (lv_at hl 1 rfl) ?_
      refine lv_iload_n hx hb dX0_borrow_61 rfl (lv_at hl 2 rfl) ?_
      refine lv_iload hx hb dX0_borrow_62 (lv_at hl 0 rfl) ?_
      obtain ⟨tp_64, hc, h⟩ := bw_b1_e h
      refine bw_callV S hK hZ hI (mX0_useDays l G cy g a tp_57 tk tl_57 ts tq np nl_57 x1 x6_41 tp_64 hc) Y_X0_useDays V_X0_useDays l_X0_73 ⟨(Nat.le_of_ble_eq_true rfl), (Nat.le_of_ble_eq_true rfl)⟩ (q0 := 0) rfl rfl rfl (ws' := (bw_dW cy a tp_64 tk tl_57 ts tq np nl_57)) (bw_pS _) (bw_pS' _) rfl rfl hl.1 (rest := []) (st1 := []) rfl rfl (Nat.le_of_ble_eq_true rfl) dX0_borrow_64 ⟨(Nat.le_of_ble_eq_true rfl), (Nat.le_of_ble_eq_true rfl)⟩ (fun H locs hI => ?_)
      refine lv_iload hx hb dX0_borrow_67 (lv_at hl 5 rfl) ?_
      refine lv_iload hx hb dX0_borrow_69 (lv_at hl 0 rfl) ?_
      refine lv_iadd hx hb dX0_borrow_71 ?_
      refine lv_topi (fun x4_72 e_72 => ?_)
      have h := bw_let_e h e_72
      clear e_72
      refine lv_istore (lv' := [(4, .int x4_72), (6, .int x6_41), (0, .ref (a 0)), (1, .int x1), (2, .int x2), (3, .int x3), (5, .int x5)]) hx hb dX0_borrow_72 hl (by decide) rfl (fun ls hl => ?_)
      obtain ⟨x5_74, e_74⟩ : ∃ y : Int32, y = x5 + 1 := ⟨_, rfl⟩
      have h := bw_let_e h e_74
      refine lv_iinc (v := x5_74) (lv' := [(5, .int x5_74), (4, .int x4_72), (6, .int x6_41), (0, .ref (a 0)), (1, .int x1), (2, .int x2), (3, .int x3)]) hx hb dX0_borrow_74 hl (k := 6) rfl (by rw [e_74]; rfl) (by decide) rfl (fun ls hl => ?_)
      clear e_74
      refine lv_goto (tgt := 12) hx hb dX0_borrow_77 (by decide) ?_
      exact ih _ _ _ tp_64 tl_57 nl_57 x4_72 x5_74 h hI (lv_sub hl [3,4,5,6,1,0] rfl)
  unfold fX0_borrow at h
  refine lv_aload_n hx hb dX0_borrow_0 rfl (lv_at hl 0 rfl) ?_
  refine lv_iload_n hx hb dX0_borrow_1 rfl (lv_at hl 1 rfl) ?_
  obtain ⟨r2, tq_2, hc, h⟩ := bw_b2_e h
  refine bw_callV S hK hZ hI (mX0_queueLenders l G cy g a tp tk tl ts tq np nl p1 r2 tq_2 hc) Y_X0_queueLenders V_X0_queueLenders l_X0_94 ⟨(Nat.le_of_ble_eq_true rfl), (Nat.le_of_ble_eq_true rfl)⟩ (q0 := 0) rfl rfl rfl (ws' := (bw_dW cy a tp tk tl ts tq_2 np nl)) (bw_pS _) (bw_pS' _) rfl rfl hl.1 (rest := []) (st1 := [.int r2]) rfl rfl (Nat.le_of_ble_eq_true rfl) dX0_borrow_2 ⟨(Nat.le_of_ble_eq_true rfl), (Nat.le_of_ble_eq_true rfl)⟩ (fun H locs hI => ?_)
  refine lv_istore_n (lv' := [(3, .int r2), (0, .ref (a 0)), (1, .int p1), (2, .int p2)]) hx hb dX0_borrow_5 rfl hl (by decide) rfl (fun ls hl => ?_)
  refine lv_iconst (v := 0) hx hb dX0_borrow_6 rfl ?_
  refine lv_istore (lv' := [(4, .int 0), (3, .int r2), (0, .ref (a 0)), (1, .int p1), (2, .int p2)]) hx hb dX0_borrow_7 hl (by decide) rfl (fun ls hl => ?_)
  refine lv_iconst (v := 0) hx hb dX0_borrow_9 rfl ?_
  refine lv_istore (lv' := [(5, .int 0), (4, .int 0), (3, .int r2), (0, .ref (a 0)), (1, .int p1), (2, .int p2)]) hx hb dX0_borrow_10 hl (by decide) rfl (fun ls hl => ?_)
  exact l12 tq_2 p1 p2 r2 bw_fu _ _ _ tp tl nl 0 0 h hI (lv_sub hl [3,4,5,2,1,0] rfl)
set_option maxHeartbeats 4000000 in
set_option maxRecDepth 100000 in
theorem mX0_doNextTask (l : Launch) (G : va_G) (cy : Nat → ClassId) (g : Nat) (a : Nat → Nat) (tp : bw_A1) (tk : bw_A1) (tl : bw_A1) (ts : bw_A1) (tq : bw_A1) (np : Int32) (nl : Int32) (p1 : Int32) (p2 : Int32) (r : Int32) (tp' : bw_A1) (tk' : bw_A1) (tl' : bw_A1) (tq' : bw_A1) (nl' : Int32) (h : fX0_doNextTask tp tk tl ts tq np nl p1 p2 = some (r, tp', tk', tl', tq', nl')) : bw_M l yX0_doNextTask cX0_doNextTask 11 (some .int) 4 99 G cy g [.ref (a 0), .int p1, .int p2] (bw_dW cy a tp tk tl ts tq np nl) (some (.int r)) (bw_dW cy a tp' tk' tl' ts tq' np nl') := by
  refine bw_ofW (by decide +kernel) RX0 rfl (Nat.le_of_ble_eq_true rfl) ?_
  intro p e s m below meth c ls S hr hlocks hK hZ hI hl
  have hx := S.1
  have hb := S.2.1
  have hown := S.2.2.2.1
  have hts := S.2.2.2.2
  generalize va_A _ s.heap.size = A at hI hZ ⊢
  generalize hQ : MQ below _ _ s 0 0 A = Q
  have hl : lv_has ls 11 [(0, .ref (a 0)), (1, .int p1), (2, .int p2)] := hl
  unfold fX0_doNextTask at h
  refine lv_iload_n hx hb dX0_doNextTask_0 rfl (lv_at hl 1 rfl) ?_
  refine lv_aload_n hx hb dX0_doNextTask_1 rfl (lv_at hl 0 rfl) ?_
  refine bw_get S hK hI 0 0 rfl rfl (by decide) i_X0 f_X0_14 rfl dX0_doNextTask_2 ?_
  refine lv_iload_n hx hb dX0_doNextTask_5 rfl (lv_at hl 1 rfl) ?_
  refine lv_bipush (v := 8) hx hb dX0_doNextTask_6 (by decide) ?_
  obtain ⟨r8, hc, h⟩ := bw_b1_e h
  refine bw_callV S hK hZ hI (mX3_get l G cy g (a 1) (a 2) 84 14 tp p1 8 r8 hc) Y_X3_get V_X3_get l_X0_51 ⟨(Nat.le_of_ble_eq_true rfl), (Nat.le_of_ble_eq_true rfl)⟩ (q0 := 0) rfl rfl rfl (ws' := (bw_dW cy a tp tk tl ts tq np nl)) (bw_pd0 cy a tp tk tl ts tq np nl) (bw_pd0 cy a tp tk tl ts tq np nl).symm rfl rfl hl.1 (rest := [.int p1]) (st1 := [.int r8, .int p1]) rfl rfl (Nat.le_of_ble_eq_true rfl) dX0_doNextTask_8 ⟨(Nat.le_of_ble_eq_true rfl), (Nat.le_of_ble_eq_true rfl)⟩ (fun H locs hI => ?_)
  obtain ⟨r11, hc, h⟩ := bw_b1_e h
  refine bw_callP S hK hZ hI (mX0_rowOfTask l G cy g p1 r8 r11 hc) Y_X0_rowOfTask V_X0_rowOfTask l_X0_62 ⟨(Nat.le_of_ble_eq_true rfl), (Nat.le_of_ble_eq_true rfl)⟩ (rest := []) (st1 := [.int r11]) rfl hl.1 rfl rfl (Nat.le_of_ble_eq_true rfl) dX0_doNextTask_11 ⟨(Nat.le_of_ble_eq_true rfl), (Nat.le_of_ble_eq_true rfl)⟩ (fun H locs hI => ?_)
  refine lv_istore_n (lv' := [(3, .int r11), (0, .ref (a 0)), (1, .int p1), (2, .int p2)]) hx hb dX0_doNextTask_14 rfl hl (by decide) rfl (fun ls hl => ?_)
  refine lv_aload_n hx hb dX0_doNextTask_15 rfl (lv_at hl 1 rfl) ?_
  refine bw_get S hK hI 0 1 rfl rfl (by decide) i_X0 f_X0_20 rfl dX0_doNextTask_16 ?_
  refine lv_iload_n hx hb dX0_doNextTask_19 rfl (lv_at hl 0 rfl) ?_
  refine lv_iconst (v := 0) hx hb dX0_doNextTask_20 rfl ?_
  obtain ⟨r21, hc, h⟩ := bw_b1_e h
  refine bw_callV S hK hZ hI (mX3_get l G cy g (a 3) (a 4) 288 6 tk r11 0 r21 hc) Y_X3_get V_X3_get l_X0_51 ⟨(Nat.le_of_ble_eq_true rfl), (Nat.le_of_ble_eq_true rfl)⟩ (q0 := 0) rfl rfl rfl (ws' := (bw_dW cy a tp tk tl ts tq np nl)) (bw_pd1 cy a tp tk tl ts tq np nl) (bw_pd1 cy a tp tk tl ts tq np nl).symm rfl rfl hl.1 (rest := []) (st1 := [.int r21]) rfl rfl (Nat.le_of_ble_eq_true rfl) dX0_doNextTask_21 ⟨(Nat.le_of_ble_eq_true rfl), (Nat.le_of_ble_eq_true rfl)⟩ (fun H locs hI => ?_)
  refine lv_istore (lv' := [(4, .int r21), (3, .int r11), (0, .ref (a 0)), (1, .int p1), (2, .int p2)]) hx hb dX0_doNextTask_24 hl (by decide) rfl (fun ls hl => ?_)
  refine lv_iconst (v := 0) hx hb dX0_doNextTask_26 rfl ?_
  refine lv_iload hx hb dX0_doNextTask_27 (lv_at hl 0 rfl) ?_
  refine lv_iload_n hx hb dX0_doNextTask_29 rfl (lv_at hl 4 rfl) ?_
  refine lv_isub hx hb dX0_doNextTask_30 ?_
  refine bw_mmax S (rest := []) hl.1 l_X0_68 l_JM_max_s l_JM_i l_JM_max_c (Nat.le_of_ble_eq_true rfl) (Nat.le_of_ble_eq_true rfl) ⟨(Nat.le_of_ble_eq_true rfl), (Nat.le_of_ble_eq_true rfl)⟩ dX0_doNextTask_31 ?_
  refine lv_topi (fun x5_34 e_34 => ?_)
  have h := bw_let_e h e_34
  clear e_34
  refine lv_istore (lv' := [(5, .int x5_34), (4, .int r21), (3, .int r11), (0, .ref (a 0)), (1, .int p1), (2, .int p2)]) hx hb dX0_doNextTask_34 hl (by decide) rfl (fun ls hl => ?_)
  refine lv_iconst (v := 0) hx hb dX0_doNextTask_36 rfl ?_
  refine lv_iload_n hx hb dX0_doNextTask_37 rfl (lv_at hl 5 rfl) ?_
  refine lv_iload hx hb dX0_doNextTask_38 (lv_at hl 1 rfl) ?_
  refine lv_isub hx hb dX0_doNextTask_40 ?_
  refine bw_mmax S (rest := []) hl.1 l_X0_68 l_JM_max_s l_JM_i l_JM_max_c (Nat.le_of_ble_eq_true rfl) (Nat.le_of_ble_eq_true rfl) ⟨(Nat.le_of_ble_eq_true rfl), (Nat.le_of_ble_eq_true rfl)⟩ dX0_doNextTask_41 ?_
  refine lv_topi (fun x6_44 e_44 => ?_)
  have h := bw_let_e h e_44
  clear e_44
  refine lv_istore (lv' := [(6, .int x6_44), (5, .int x5_34), (4, .int r21), (3, .int r11), (0, .ref (a 0)), (1, .int p1), (2, .int p2)]) hx hb dX0_doNextTask_44 hl (by decide) rfl (fun ls hl => ?_)
  refine lv_aload_n hx hb dX0_doNextTask_46 rfl (lv_at hl 4 rfl) ?_
  refine bw_get S hK hI 0 1 rfl rfl (by decide) i_X0 f_X0_20 rfl dX0_doNextTask_47 ?_
  refine lv_iload_n hx hb dX0_doNextTask_50 rfl (lv_at hl 3 rfl) ?_
  refine lv_iconst (v := 1) hx hb dX0_doNextTask_51 rfl ?_
  refine lv_iload_n hx hb dX0_doNextTask_52 rfl (lv_at hl 6 rfl) ?_
  obtain ⟨tk_53, hc, h⟩ := bw_b1_e h
  refine bw_callV S hK hZ hI (mX3_put l G cy g (a 3) (a 4) 288 6 tk r11 1 p2 tk_53 hc) Y_X3_put V_X3_put l_X0_36 ⟨(Nat.le_of_ble_eq_true rfl), (Nat.le_of_ble_eq_true rfl)⟩ (q0 := 0) rfl rfl rfl (ws' := (bw_dW cy a tp tk_53 tl ts tq np nl)) (bw_pd1 cy a tp tk tl ts tq np nl) (bw_pd1 cy a tp tk_53 tl ts tq np nl).symm rfl rfl hl.1 (rest := []) (st1 := []) rfl rfl (Nat.le_of_ble_eq_true rfl) dX0_doNextTask_53 ⟨(Nat.le_of_ble_eq_true rfl), (Nat.le_of_ble_eq_true rfl)⟩ (fun H locs hI => ?_)
  refine lv_aload_n hx hb dX0_doNextTask_56 rfl (lv_at hl 4 rfl) ?_
  refine bw_get S hK hI 0 0 rfl rfl (by decide) i_X0 f_X0_14 rfl dX0_doNextTask_57 ?_
  refine lv_iload_n hx hb dX0_doNextTask_60 rfl (lv_at hl 5 rfl) ?_
  refine lv_bipush (v := 8) hx hb dX0_doNextTask_61 (by decide) ?_
  refine lv_iconst (v := 1) hx hb dX0_doNextTask_63 rfl ?_
  obtain ⟨tp_64, hc, h⟩ := bw_b1_e h
  refine bw_callV S hK hZ hI (mX3_increase l G cy g (a 1) (a 2) 84 14 tp p1 8 1 tp_64 hc) Y_X3_increase V_X3_increase l_X0_65 ⟨(Nat.le_of_ble_eq_true rfl), (Nat.le_of_ble_eq_true rfl)⟩ (q0 := 0) rfl rfl rfl (ws' := (bw_dW cy a tp_64 tk_53 tl ts tq np nl)) (bw_pd0 cy a tp tk_53 tl ts tq np nl) (bw_pd0 cy a tp_64 tk_53 tl ts tq np nl).symm rfl rfl hl.1 (rest := []) (st1 := []) rfl rfl (Nat.le_of_ble_eq_true rfl) dX0_doNextTask_64 ⟨(Nat.le_of_ble_eq_true rfl), (Nat.le_of_ble_eq_true rfl)⟩ (fun H locs hI => ?_)
  refine lv_aload_n hx hb dX0_doNextTask_67 rfl (lv_at hl 4 rfl) ?_
  refine bw_get S hK hI 0 0 rfl rfl (by decide) i_X0 f_X0_14 rfl dX0_doNextTask_68 ?_
  refine lv_iload_n hx hb dX0_doNextTask_71 rfl (lv_at hl 5 rfl) ?_
  refine lv_bipush (v := 13) hx hb dX0_doNextTask_72 (by decide) ?_
  refine lv_iload_n hx hb dX0_doNextTask_74 rfl (lv_at hl 6 rfl) ?_
  obtain ⟨tp_75, hc, h⟩ := bw_b1_e h
  refine bw_callV S hK hZ hI (mX3_increase l G cy g (a 1) (a 2) 84 14 tp_64 p1 13 p2 tp_75 hc) Y_X3_increase V_X3_increase l_X0_65 ⟨(Nat.le_of_ble_eq_true rfl), (Nat.le_of_ble_eq_true rfl)⟩ (q0 := 0) rfl rfl rfl (ws' := (bw_dW cy a tp_75 tk_53 tl ts tq np nl)) (bw_pd0 cy a tp_64 tk_53 tl ts tq np nl) (bw_pd0 cy a tp_75 tk_53 tl ts tq np nl).symm rfl rfl hl.1 (rest := []) (st1 := []) rfl rfl (Nat.le_of_ble_eq_true rfl) dX0_doNextTask_75 ⟨(Nat.le_of_ble_eq_true rfl), (Nat.le_of_ble_eq_true rfl)⟩ (fun H locs hI => ?_)
  refine lv_aload_n hx hb dX0_doNextTask_78 rfl (lv_at hl 4 rfl) ?_
  refine lv_iload_n hx hb dX0_doNextTask_79 rfl (lv_at hl 5 rfl) ?_
  refine lv_iload hx hb dX0_doNextTask_80 (lv_at hl 1 rfl) ?_
  refine lv_ineg hx hb dX0_doNextTask_82 ?_
  obtain ⟨tp_83, hc, h⟩ := bw_b1_e h
  refine bw_callV S hK hZ hI (mX0_useDays l G cy g a tp_75 tk_53 tl ts tq np nl p1 (-x5_34) tp_83 hc) Y_X0_useDays V_X0_useDays l_X0_73 ⟨(Nat.le_of_ble_eq_true rfl), (Nat.le_of_ble_eq_true rfl)⟩ (q0 := 0) rfl rfl rfl (ws' := (bw_dW cy a tp_83 tk_53 tl ts tq np nl)) (bw_pS _) (bw_pS' _) rfl rfl hl.1 (rest := []) (st1 := []) rfl rfl (Nat.le_of_ble_eq_true rfl) dX0_doNextTask_83 ⟨(Nat.le_of_ble_eq_true rfl), (Nat.le_of_ble_eq_true rfl)⟩ (fun H locs hI => ?_)
  refine lv_aload_n hx hb dX0_doNextTask_86 rfl (lv_at hl 4 rfl) ?_
  refine lv_iload_n hx hb dX0_doNextTask_87 rfl (lv_at hl 5 rfl) ?_
  refine lv_iload hx hb dX0_doNextTask_88 (lv_at hl 1 rfl) ?_
  obtain ⟨tp_90, tl_90, nl_90, hc, h⟩ := bw_b3_e h
  refine bw_callV S hK hZ hI (mX0_repay l G cy g a tp_83 tk_53 tl ts tq np nl p1 x5_34 tp_90 tl_90 nl_90 hc) Y_X0_repay V_X0_repay l_X0_76 ⟨(Nat.le_of_ble_eq_true rfl), (Nat.le_of_ble_eq_true rfl)⟩ (q0 := 0) rfl rfl rfl (ws' := (bw_dW cy a tp_90 tk_53 tl_90 ts tq np nl_90)) (bw_pS _) (bw_pS' _) rfl rfl hl.1 (rest := []) (st1 := []) rfl rfl (Nat.le_of_ble_eq_true rfl) dX0_doNextTask_90 ⟨(Nat.le_of_ble_eq_true rfl), (Nat.le_of_ble_eq_true rfl)⟩ (fun H locs hI => ?_)
  refine lv_iload hx hb dX0_doNextTask_93 (lv_at hl 0 rfl) ?_
  refine lv_aload_n hx hb dX0_doNextTask_95 rfl (lv_at hl 4 rfl) ?_
  refine bw_get S hK hI 0 0 rfl rfl (by decide) i_X0 f_X0_14 rfl dX0_doNextTask_96 ?_
  refine lv_iload_n hx hb dX0_doNextTask_99 rfl (lv_at hl 5 rfl) ?_
  refine lv_iconst (v := 2) hx hb dX0_doNextTask_100 rfl ?_
  obtain ⟨r101, hc, h⟩ := bw_b1_e h
  refine bw_callV S hK hZ hI (mX3_get l G cy g (a 1) (a 2) 84 14 tp_90 p1 2 r101 hc) Y_X3_get V_X3_get l_X0_51 ⟨(Nat.le_of_ble_eq_true rfl), (Nat.le_of_ble_eq_true rfl)⟩ (q0 := 0) rfl rfl rfl (ws' := (bw_dW cy a tp_90 tk_53 tl_90 ts tq np nl_90)) (bw_pd0 cy a tp_90 tk_53 tl_90 ts tq np nl_90) (bw_pd0 cy a tp_90 tk_53 tl_90 ts tq np nl_90).symm rfl rfl hl.1 (rest := [.int x6_44]) (st1 := [.int r101, .int x6_44]) rfl rfl (Nat.le_of_ble_eq_true rfl) dX0_doNextTask_101 ⟨(Nat.le_of_ble_eq_true rfl), (Nat.le_of_ble_eq_true rfl)⟩ (fun H locs hI => ?_)
  refine bw_mmin S (rest := []) hl.1 l_X0_79 l_JM_min_s l_JM_i l_JM_min_c (Nat.le_of_ble_eq_true rfl) (Nat.le_of_ble_eq_true rfl) ⟨(Nat.le_of_ble_eq_true rfl), (Nat.le_of_ble_eq_true rfl)⟩ dX0_doNextTask_104 ?_
  refine lv_topi (fun x7_107 e_107 => ?_)
  have h := bw_let_e h e_107
  clear e_107
  refine lv_istore (lv' := [(7, .int x7_107), (6, .int x6_44), (5, .int x5_34), (4, .int r21), (3, .int r11), (0, .ref (a 0)), (1, .int p1), (2, .int p2)]) hx hb dX0_doNextTask_107 hl (by decide) rfl (fun ls hl => ?_)
  refine lv_aload_n hx hb dX0_doNextTask_109 rfl (lv_at hl 5 rfl) ?_
  refine lv_iload_n hx hb dX0_doNextTask_110 rfl (lv_at hl 6 rfl) ?_
  refine lv_iload hx hb dX0_doNextTask_111 (lv_at hl 0 rfl) ?_
  obtain ⟨tp_113, hc, h⟩ := bw_b1_e h
  refine bw_callV S hK hZ hI (mX0_useDays l G cy g a tp_90 tk_53 tl_90 ts tq np nl_90 p1 x7_107 tp_113 hc) Y_X0_useDays V_X0_useDays l_X0_73 ⟨(Nat.le_of_ble_eq_true rfl), (Nat.le_of_ble_eq_true rfl)⟩ (q0 := 0) rfl rfl rfl (ws' := (bw_dW cy a tp_113 tk_53 tl_90 ts tq np nl_90)) (bw_pS _) (bw_pS' _) rfl rfl hl.1 (rest := []) (st1 := []) rfl rfl (Nat.le_of_ble_eq_true rfl) dX0_doNextTask_113 ⟨(Nat.le_of_ble_eq_true rfl), (Nat.le_of_ble_eq_true rfl)⟩ (fun H locs hI => ?_)
  refine lv_aload_n hx hb dX0_doNextTask_116 rfl (lv_at hl 5 rfl) ?_
  refine lv_iload_n hx hb dX0_doNextTask_117 rfl (lv_at hl 6 rfl) ?_
  refine lv_iload hx hb dX0_doNextTask_118 (lv_at hl 1 rfl) ?_
  refine lv_iload hx hb dX0_doNextTask_120 (lv_at hl 0 rfl) ?_
  refine lv_isub hx hb dX0_doNextTask_122 ?_
  obtain ⟨r123, tp_123, tl_123, nl_123, hc, h⟩ := bw_b4_e h
  refine bw_callV S hK hZ hI (mX0_callBack l G cy g a tp_113 tk_53 tl_90 ts tq np nl_90 p1 (x6_44 - x7_107) r123 tp_123 tl_123 nl_123 hc) Y_X0_callBack V_X0_callBack l_X0_82 ⟨(Nat.le_of_ble_eq_true rfl), (Nat.le_of_ble_eq_true rfl)⟩ (q0 := 0) rfl rfl rfl (ws' := (bw_dW cy a tp_123 tk_53 tl_123 ts tq np nl_123)) (bw_pS _) (bw_pS' _) rfl rfl hl.1 (rest := []) (st1 := [.int r123]) rfl rfl (Nat.le_of_ble_eq_true rfl) dX0_doNextTask_123 ⟨(Nat.le_of_ble_eq_true rfl), (Nat.le_of_ble_eq_true rfl)⟩ (fun H locs hI => ?_)
  refine lv_istore (lv' := [(8, .int r123), (7, .int x7_107), (6, .int x6_44), (5, .int x5_34), (4, .int r21), (3, .int r11), (0, .ref (a 0)), (1, .int p1), (2, .int p2)]) hx hb dX0_doNextTask_126 hl (by decide) rfl (fun ls hl => ?_)
  refine lv_aload_n hx hb dX0_doNextTask_128 rfl (lv_at hl 6 rfl) ?_
  refine lv_iload_n hx hb dX0_doNextTask_129 rfl (lv_at hl 7 rfl) ?_
  refine lv_iload hx hb dX0_doNextTask_130 (lv_at hl 2 rfl) ?_
  refine lv_iload hx hb dX0_doNextTask_132 (lv_at hl 1 rfl) ?_
  refine lv_isub hx hb dX0_doNextTask_134 ?_
  refine lv_iload hx hb dX0_doNextTask_135 (lv_at hl 0 rfl) ?_
  refine lv_isub hx hb dX0_doNextTask_137 ?_
  obtain ⟨r138, tp_138, tl_138, tq_138, nl_138, hc, h⟩ := bw_b5_e h
  refine bw_callV S hK hZ hI (mX0_borrow l G cy g a tp_123 tk_53 tl_123 ts tq np nl_123 p1 ((x6_44 - x7_107) - r123) r138 tp_138 tl_138 tq_138 nl_138 hc) Y_X0_borrow V_X0_borrow l_X0_85 ⟨(Nat.le_of_ble_eq_true rfl), (Nat.le_of_ble_eq_true rfl)⟩ (q0 := 0) rfl rfl rfl (ws' := (bw_dW cy a tp_138 tk_53 tl_138 ts tq_138 np nl_138)) (bw_pS _) (bw_pS' _) rfl rfl hl.1 (rest := []) (st1 := [.int r138]) rfl rfl (Nat.le_of_ble_eq_true rfl) dX0_doNextTask_138 ⟨(Nat.le_of_ble_eq_true rfl), (Nat.le_of_ble_eq_true rfl)⟩ (fun H locs hI => ?_)
  refine lv_istore (lv' := [(9, .int r138), (8, .int r123), (7, .int x7_107), (6, .int x6_44), (5, .int x5_34), (4, .int r21), (3, .int r11), (0, .ref (a 0)), (1, .int p1), (2, .int p2)]) hx hb dX0_doNextTask_141 hl (by decide) rfl (fun ls hl => ?_)
  refine lv_iload hx hb dX0_doNextTask_143 (lv_at hl 3 rfl) ?_
  refine lv_iload hx hb dX0_doNextTask_145 (lv_at hl 2 rfl) ?_
  refine lv_isub hx hb dX0_doNextTask_147 ?_
  refine lv_iload hx hb dX0_doNextTask_148 (lv_at hl 1 rfl) ?_
  refine lv_isub hx hb dX0_doNextTask_150 ?_
  refine lv_iload hx hb dX0_doNextTask_151 (lv_at hl 0 rfl) ?_
  refine lv_isub hx hb dX0_doNextTask_153 ?_
  refine lv_topi (fun x10_154 e_154 => ?_)
  have h := bw_let_e h e_154
  clear e_154
  refine lv_istore (lv' := [(10, .int x10_154), (9, .int r138), (8, .int r123), (7, .int x7_107), (6, .int x6_44), (5, .int x5_34), (4, .int r21), (3, .int r11), (0, .ref (a 0)), (1, .int p1), (2, .int p2)]) hx hb dX0_doNextTask_154 hl (by decide) rfl (fun ls hl => ?_)
  refine lv_aload_n hx hb dX0_doNextTask_156 rfl (lv_at hl 8 rfl) ?_
  refine bw_get S hK hI 0 1 rfl rfl (by decide) i_X0 f_X0_20 rfl dX0_doNextTask_157 ?_
  refine lv_iload_n hx hb dX0_doNextTask_160 rfl (lv_at hl 7 rfl) ?_
  refine lv_iconst (v := 2) hx hb dX0_doNextTask_161 rfl ?_
  refine lv_iload hx hb dX0_doNextTask_162 (lv_at hl 3 rfl) ?_
  obtain ⟨tk_164, hc, h⟩ := bw_b1_e h
  refine bw_callV S hK hZ hI (mX3_put l G cy g (a 3) (a 4) 288 6 tk_53 r11 2 x7_107 tk_164 hc) Y_X3_put V_X3_put l_X0_36 ⟨(Nat.le_of_ble_eq_true rfl), (Nat.le_of_ble_eq_true rfl)⟩ (q0 := 0) rfl rfl rfl (ws' := (bw_dW cy a tp_138 tk_164 tl_138 ts tq_138 np nl_138)) (bw_pd1 cy a tp_138 tk_53 tl_138 ts tq_138 np nl_138) (bw_pd1 cy a tp_138 tk_164 tl_138 ts tq_138 np nl_138).symm rfl rfl hl.1 (rest := []) (st1 := []) rfl rfl (Nat.le_of_ble_eq_true rfl) dX0_doNextTask_164 ⟨(Nat.le_of_ble_eq_true rfl), (Nat.le_of_ble_eq_true rfl)⟩ (fun H locs hI => ?_)
  refine lv_aload_n hx hb dX0_doNextTask_167 rfl (lv_at hl 8 rfl) ?_
  refine bw_get S hK hI 0 1 rfl rfl (by decide) i_X0 f_X0_20 rfl dX0_doNextTask_168 ?_
  refine lv_iload_n hx hb dX0_doNextTask_171 rfl (lv_at hl 7 rfl) ?_
  refine lv_iconst (v := 3) hx hb dX0_doNextTask_172 rfl ?_
  refine lv_iload hx hb dX0_doNextTask_173 (lv_at hl 2 rfl) ?_
  obtain ⟨tk_175, hc, h⟩ := bw_b1_e h
  refine bw_callV S hK hZ hI (mX3_put l G cy g (a 3) (a 4) 288 6 tk_164 r11 3 r123 tk_175 hc) Y_X3_put V_X3_put l_X0_36 ⟨(Nat.le_of_ble_eq_true rfl), (Nat.le_of_ble_eq_true rfl)⟩ (q0 := 0) rfl rfl rfl (ws' := (bw_dW cy a tp_138 tk_175 tl_138 ts tq_138 np nl_138)) (bw_pd1 cy a tp_138 tk_164 tl_138 ts tq_138 np nl_138) (bw_pd1 cy a tp_138 tk_175 tl_138 ts tq_138 np nl_138).symm rfl rfl hl.1 (rest := []) (st1 := []) rfl rfl (Nat.le_of_ble_eq_true rfl) dX0_doNextTask_175 ⟨(Nat.le_of_ble_eq_true rfl), (Nat.le_of_ble_eq_true rfl)⟩ (fun H locs hI => ?_)
  refine lv_aload_n hx hb dX0_doNextTask_178 rfl (lv_at hl 8 rfl) ?_
  refine bw_get S hK hI 0 1 rfl rfl (by decide) i_X0 f_X0_20 rfl dX0_doNextTask_179 ?_
  refine lv_iload_n hx hb dX0_doNextTask_182 rfl (lv_at hl 7 rfl) ?_
  refine lv_iconst (v := 4) hx hb dX0_doNextTask_183 rfl ?_
  refine lv_iload hx hb dX0_doNextTask_184 (lv_at hl 1 rfl) ?_
  obtain ⟨tk_186, hc, h⟩ := bw_b1_e h
  refine bw_callV S hK hZ hI (mX3_put l G cy g (a 3) (a 4) 288 6 tk_175 r11 4 r138 tk_186 hc) Y_X3_put V_X3_put l_X0_36 ⟨(Nat.le_of_ble_eq_true rfl), (Nat.le_of_ble_eq_true rfl)⟩ (q0 := 0) rfl rfl rfl (ws' := (bw_dW cy a tp_138 tk_186 tl_138 ts tq_138 np nl_138)) (bw_pd1 cy a tp_138 tk_175 tl_138 ts tq_138 np nl_138) (bw_pd1 cy a tp_138 tk_186 tl_138 ts tq_138 np nl_138).symm rfl rfl hl.1 (rest := []) (st1 := []) rfl rfl (Nat.le_of_ble_eq_true rfl) dX0_doNextTask_186 ⟨(Nat.le_of_ble_eq_true rfl), (Nat.le_of_ble_eq_true rfl)⟩ (fun H locs hI => ?_)
  refine lv_aload_n hx hb dX0_doNextTask_189 rfl (lv_at hl 8 rfl) ?_
  refine bw_get S hK hI 0 1 rfl rfl (by decide) i_X0 f_X0_20 rfl dX0_doNextTask_190 ?_
  refine lv_iload_n hx hb dX0_doNextTask_193 rfl (lv_at hl 7 rfl) ?_
  refine lv_iconst (v := 5) hx hb dX0_doNextTask_194 rfl ?_
  refine lv_iload hx hb dX0_doNextTask_195 (lv_at hl 0 rfl) ?_
  obtain ⟨tk_197, hc, h⟩ := bw_b1_e h
  refine bw_callV S hK hZ hI (mX3_put l G cy g (a 3) (a 4) 288 6 tk_186 r11 5 x10_154 tk_197 hc) Y_X3_put V_X3_put l_X0_36 ⟨(Nat.le_of_ble_eq_true rfl), (Nat.le_of_ble_eq_true rfl)⟩ (q0 := 0) rfl rfl rfl (ws' := (bw_dW cy a tp_138 tk_197 tl_138 ts tq_138 np nl_138)) (bw_pd1 cy a tp_138 tk_186 tl_138 ts tq_138 np nl_138) (bw_pd1 cy a tp_138 tk_197 tl_138 ts tq_138 np nl_138).symm rfl rfl hl.1 (rest := []) (st1 := []) rfl rfl (Nat.le_of_ble_eq_true rfl) dX0_doNextTask_197 ⟨(Nat.le_of_ble_eq_true rfl), (Nat.le_of_ble_eq_true rfl)⟩ (fun H locs hI => ?_)
  refine lv_aload_n hx hb dX0_doNextTask_200 rfl (lv_at hl 8 rfl) ?_
  refine bw_get S hK hI 0 0 rfl rfl (by decide) i_X0 f_X0_14 rfl dX0_doNextTask_201 ?_
  refine lv_iload_n hx hb dX0_doNextTask_204 rfl (lv_at hl 9 rfl) ?_
  refine lv_bipush (v := 6) hx hb dX0_doNextTask_205 (by decide) ?_
  refine lv_iload hx hb dX0_doNextTask_207 (lv_at hl 0 rfl) ?_
  obtain ⟨tp_209, hc, h⟩ := bw_b1_e h
  refine bw_callV S hK hZ hI (mX3_increase l G cy g (a 1) (a 2) 84 14 tp_138 p1 6 x10_154 tp_209 hc) Y_X3_increase V_X3_increase l_X0_65 ⟨(Nat.le_of_ble_eq_true rfl), (Nat.le_of_ble_eq_true rfl)⟩ (q0 := 0) rfl rfl rfl (ws' := (bw_dW cy a tp_209 tk_197 tl_138 ts tq_138 np nl_138)) (bw_pd0 cy a tp_138 tk_197 tl_138 ts tq_138 np nl_138) (bw_pd0 cy a tp_209 tk_197 tl_138 ts tq_138 np nl_138).symm rfl rfl hl.1 (rest := []) (st1 := []) rfl rfl (Nat.le_of_ble_eq_true rfl) dX0_doNextTask_209 ⟨(Nat.le_of_ble_eq_true rfl), (Nat.le_of_ble_eq_true rfl)⟩ (fun H locs hI => ?_)
  refine lv_aload_n hx hb dX0_doNextTask_212 rfl (lv_at hl 8 rfl) ?_
  refine lv_iload_n hx hb dX0_doNextTask_213 rfl (lv_at hl 9 rfl) ?_
  obtain ⟨r214, hc, h⟩ := bw_b1_e h
  refine bw_callV S hK hZ hI (mX0_hasNextTask l G cy g a tp_209 tk_197 tl_138 ts tq_138 np nl_138 p1 r214 hc) Y_X0_hasNextTask V_X0_hasNextTask l_X0_88 ⟨(Nat.le_of_ble_eq_true rfl), (Nat.le_of_ble_eq_true rfl)⟩ (q0 := 0) rfl rfl rfl (ws' := (bw_dW cy a tp_209 tk_197 tl_138 ts tq_138 np nl_138)) (bw_pS _) (bw_pS' _) rfl rfl hl.1 (rest := []) (st1 := [.int r214]) rfl rfl (Nat.le_of_ble_eq_true rfl) dX0_doNextTask_214 ⟨(Nat.le_of_ble_eq_true rfl), (Nat.le_of_ble_eq_true rfl)⟩ (fun H locs hI => ?_)
  refine lv_if_eq (tgt := 247) hx hb dX0_doNextTask_217 (by decide) (fun c_217 => ?_) (fun c_217 => ?_)
  · rw [if_pos c_217] at h
    refine lv_iload hx hb dX0_doNextTask_247 (lv_at hl 0 rfl) ?_
    exact bw_iret (d := (tp_209, tk_197, tl_138, tq_138, nl_138)) (rr := (r, tp', tk', tl', tq', nl')) S hr hlocks h (fun q : (bw_A1 × bw_A1 × bw_A1 × bw_A1 × Int32) => (bw_dW cy a q.1 q.2.1 q.2.2.1 ts q.2.2.2.1 np q.2.2.2.2)) hI rfl dX0_doNextTask_249 hQ
  rw [if_neg c_217] at h
  refine lv_aload_n hx hb dX0_doNextTask_220 rfl (lv_at hl 8 rfl) ?_
  refine lv_iload_n hx hb dX0_doNextTask_221 rfl (lv_at hl 9 rfl) ?_
  refine lv_aload_n hx hb dX0_doNextTask_222 rfl (lv_at hl 8 rfl) ?_
  refine bw_get S hK hI 0 0 rfl rfl (by decide) i_X0 f_X0_14 rfl dX0_doNextTask_223 ?_
  refine lv_iload_n hx hb dX0_doNextTask_226 rfl (lv_at hl 9 rfl) ?_
  refine lv_iconst (v := 2) hx hb dX0_doNextTask_227 rfl ?_
  obtain ⟨r228, hc, h⟩ := bw_b1_e h
  refine bw_callV S hK hZ hI (mX3_get l G cy g (a 1) (a 2) 84 14 tp_209 p1 2 r228 hc) Y_X3_get V_X3_get l_X0_51 ⟨(Nat.le_of_ble_eq_true rfl), (Nat.le_of_ble_eq_true rfl)⟩ (q0 := 0) rfl rfl rfl (ws' := (bw_dW cy a tp_209 tk_197 tl_138 ts tq_138 np nl_138)) (bw_pd0 cy a tp_209 tk_197 tl_138 ts tq_138 np nl_138) (bw_pd0 cy a tp_209 tk_197 tl_138 ts tq_138 np nl_138).symm rfl rfl hl.1 (rest := [.int p1, .ref (a 0)]) (st1 := [.int r228, .int p1, .ref (a 0)]) rfl rfl (Nat.le_of_ble_eq_true rfl) dX0_doNextTask_228 ⟨(Nat.le_of_ble_eq_true rfl), (Nat.le_of_ble_eq_true rfl)⟩ (fun H locs hI => ?_)
  refine lv_aload_n hx hb dX0_doNextTask_231 rfl (lv_at hl 8 rfl) ?_
  refine bw_get S hK hI 0 3 rfl rfl (by decide) i_X0 f_X0_30 rfl dX0_doNextTask_232 ?_
  refine lv_iconst (v := 0) hx hb dX0_doNextTask_235 rfl ?_
  refine lv_iconst (v := 2) hx hb dX0_doNextTask_236 rfl ?_
  obtain ⟨r237, hc, h⟩ := bw_b1_e h
  refine bw_callV S hK hZ hI (mX3_get l G cy g (a 7) (a 8) 3 3 ts 0 2 r237 hc) Y_X3_get V_X3_get l_X0_51 ⟨(Nat.le_of_ble_eq_true rfl), (Nat.le_of_ble_eq_true rfl)⟩ (q0 := 0) rfl rfl rfl (ws' := (bw_dW cy a tp_209 tk_197 tl_138 ts tq_138 np nl_138)) (bw_pd3 cy a tp_209 tk_197 tl_138 ts tq_138 np nl_138) (bw_pd3 cy a tp_209 tk_197 tl_138 ts tq_138 np nl_138).symm rfl rfl hl.1 (rest := [.int r228, .int p1, .ref (a 0)]) (st1 := [.int r237, .int r228, .int p1, .ref (a 0)]) rfl rfl (Nat.le_of_ble_eq_true rfl) dX0_doNextTask_237 ⟨(Nat.le_of_ble_eq_true rfl), (Nat.le_of_ble_eq_true rfl)⟩ (fun H locs hI => ?_)
  refine lv_imul hx hb dX0_doNextTask_240 ?_
  refine lv_bipush (v := 100) hx hb dX0_doNextTask_241 (by decide) ?_
  refine lv_idiv hx hb dX0_doNextTask_243 (by decide) ?_
  obtain ⟨tp_244, tl_244, nl_244, hc, h⟩ := bw_b3_e h
  refine bw_callV S hK hZ hI (mX0_repay l G cy g a tp_209 tk_197 tl_138 ts tq_138 np nl_138 p1 ((r228 * r237) / 100) tp_244 tl_244 nl_244 hc) Y_X0_repay V_X0_repay l_X0_76 ⟨(Nat.le_of_ble_eq_true rfl), (Nat.le_of_ble_eq_true rfl)⟩ (q0 := 0) rfl rfl rfl (ws' := (bw_dW cy a tp_244 tk_197 tl_244 ts tq_138 np nl_244)) (bw_pS _) (bw_pS' _) rfl rfl hl.1 (rest := []) (st1 := []) rfl rfl (Nat.le_of_ble_eq_true rfl) dX0_doNextTask_244 ⟨(Nat.le_of_ble_eq_true rfl), (Nat.le_of_ble_eq_true rfl)⟩ (fun H locs hI => ?_)
  refine lv_iload hx hb dX0_doNextTask_247 (lv_at hl 0 rfl) ?_
  exact bw_iret (d := (tp_244, tk_197, tl_244, tq_138, nl_244)) (rr := (r, tp', tk', tl', tq', nl')) S hr hlocks h (fun q : (bw_A1 × bw_A1 × bw_A1 × bw_A1 × Int32) => (bw_dW cy a q.1 q.2.1 q.2.2.1 ts q.2.2.2.1 np q.2.2.2.2)) hI rfl dX0_doNextTask_249 hQ
set_option maxHeartbeats 4000000 in
set_option maxRecDepth 100000 in
theorem mX0_daysOwed (l : Launch) (G : va_G) (cy : Nat → ClassId) (g : Nat) (a : Nat → Nat) (tp : bw_A1) (tk : bw_A1) (tl : bw_A1) (ts : bw_A1) (tq : bw_A1) (np : Int32) (nl : Int32) (p1 : Int32) (p2 : Int32) (r : Int32) (h : fX0_daysOwed tl nl p1 p2 = some r) : bw_M l yX0_daysOwed cX0_daysOwed 3 (some .int) 2 46 G cy g [.ref (a 0), .int p1, .int p2] (bw_dW cy a tp tk tl ts tq np nl) (some (.int r)) (bw_dW cy a tp tk tl ts tq np nl) := by
  refine bw_ofW (by decide +kernel) RX0 rfl (Nat.le_of_ble_eq_true rfl) ?_
  intro p e s m below meth c ls S hr hlocks hK hZ hI hl
  have hx := S.1
  have hb := S.2.1
  have hown := S.2.2.2.1
  have hts := S.2.2.2.2
  generalize va_A _ s.heap.size = A at hI hZ ⊢
  generalize hQ : MQ below _ _ s 0 0 A = Q
  have hl : lv_has ls 3 [(0, .ref (a 0)), (1, .int p1), (2, .int p2)] := hl
  unfold fX0_daysOwed at h
  refine lv_aload_n hx hb dX0_daysOwed_0 rfl (lv_at hl 0 rfl) ?_
  refine bw_get S hK hI 0 2 rfl rfl (by decide) i_X0 f_X0_23 rfl dX0_daysOwed_1 ?_
  refine lv_aload_n hx hb dX0_daysOwed_4 rfl (lv_at hl 0 rfl) ?_
  refine lv_iload_n hx hb dX0_daysOwed_5 rfl (lv_at hl 2 rfl) ?_
  refine lv_iload_n hx hb dX0_daysOwed_6 rfl (lv_at hl 1 rfl) ?_
  obtain ⟨r7, hc, h⟩ := bw_b1_e h
  refine bw_callV S hK hZ hI (mX0_placeOfLoan l G cy g a tp tk tl ts tq np nl p2 p1 r7 hc) Y_X0_placeOfLoan V_X0_placeOfLoan l_X0_108 ⟨(Nat.le_of_ble_eq_true rfl), (Nat.le_of_ble_eq_true rfl)⟩ (q0 := 0) rfl rfl rfl (ws' := (bw_dW cy a tp tk tl ts tq np nl)) (bw_pS _) (bw_pS' _) rfl rfl hl.1 (rest := [.ref (a 5)]) (st1 := [.int r7, .ref (a 5)]) rfl rfl (Nat.le_of_ble_eq_true rfl) dX0_daysOwed_7 ⟨(Nat.le_of_ble_eq_true rfl), (Nat.le_of_ble_eq_true rfl)⟩ (fun H locs hI => ?_)
  refine lv_iconst (v := 2) hx hb dX0_daysOwed_10 rfl ?_
  obtain ⟨r11, hc, h⟩ := bw_b1_e h
  refine bw_callV S hK hZ hI (mX3_get l G cy g (a 5) (a 6) 90 3 tl r7 2 r11 hc) Y_X3_get V_X3_get l_X0_51 ⟨(Nat.le_of_ble_eq_true rfl), (Nat.le_of_ble_eq_true rfl)⟩ (q0 := 0) rfl rfl rfl (ws' := (bw_dW cy a tp tk tl ts tq np nl)) (bw_pd2 cy a tp tk tl ts tq np nl) (bw_pd2 cy a tp tk tl ts tq np nl).symm rfl rfl hl.1 (rest := []) (st1 := [.int r11]) rfl rfl (Nat.le_of_ble_eq_true rfl) dX0_daysOwed_11 ⟨(Nat.le_of_ble_eq_true rfl), (Nat.le_of_ble_eq_true rfl)⟩ (fun H locs hI => ?_)
  exact bw_iretP S hr hlocks h hI rfl dX0_daysOwed_14 hQ
set_option maxHeartbeats 4000000 in
set_option maxRecDepth 100000 in
theorem mX0_writeOff (l : Launch) (G : va_G) (cy : Nat → ClassId) (g : Nat) (a : Nat → Nat) (tp : bw_A1) (tk : bw_A1) (tl : bw_A1) (ts : bw_A1) (tq : bw_A1) (np : Int32) (nl : Int32) (p1 : Int32) (r : Int32) (tp' : bw_A1) (tl' : bw_A1) (nl' : Int32) (h : fX0_writeOff tp tl nl p1 = some (r, tp', tl', nl')) : bw_M l yX0_writeOff cX0_writeOff 3 (some .int) 2 46 G cy g [.ref (a 0), .int p1] (bw_dW cy a tp tk tl ts tq np nl) (some (.int r)) (bw_dW cy a tp' tk tl' ts tq np nl') := by
  refine bw_ofW (by decide +kernel) RX0 rfl (Nat.le_of_ble_eq_true rfl) ?_
  intro p e s m below meth c ls S hr hlocks hK hZ hI hl
  have hx := S.1
  have hb := S.2.1
  have hown := S.2.2.2.1
  have hts := S.2.2.2.2
  generalize va_A _ s.heap.size = A at hI hZ ⊢
  generalize hQ : MQ below _ _ s 0 0 A = Q
  have hl : lv_has ls 3 [(0, .ref (a 0)), (1, .int p1)] := hl
  unfold fX0_writeOff at h
  refine lv_aload_n hx hb dX0_writeOff_0 rfl (lv_at hl 0 rfl) ?_
  refine bw_get S hK hI 0 2 rfl rfl (by decide) i_X0 f_X0_23 rfl dX0_writeOff_1 ?_
  refine lv_iload_n hx hb dX0_writeOff_4 rfl (lv_at hl 1 rfl) ?_
  refine lv_iconst (v := 2) hx hb dX0_writeOff_5 rfl ?_
  obtain ⟨r6, hc, h⟩ := bw_b1_e h
  refine bw_callV S hK hZ hI (mX3_get l G cy g (a 5) (a 6) 90 3 tl p1 2 r6 hc) Y_X3_get V_X3_get l_X0_51 ⟨(Nat.le_of_ble_eq_true rfl), (Nat.le_of_ble_eq_true rfl)⟩ (q0 := 0) rfl rfl rfl (ws' := (bw_dW cy a tp tk tl ts tq np nl)) (bw_pd2 cy a tp tk tl ts tq np nl) (bw_pd2 cy a tp tk tl ts tq np nl).symm rfl rfl hl.1 (rest := []) (st1 := [.int r6]) rfl rfl (Nat.le_of_ble_eq_true rfl) dX0_writeOff_6 ⟨(Nat.le_of_ble_eq_true rfl), (Nat.le_of_ble_eq_true rfl)⟩ (fun H locs hI => ?_)
  refine lv_istore_n (lv' := [(2, .int r6), (0, .ref (a 0)), (1, .int p1)]) hx hb dX0_writeOff_9 rfl hl (by decide) rfl (fun ls hl => ?_)
  refine lv_aload_n hx hb dX0_writeOff_10 rfl (lv_at hl 1 rfl) ?_
  refine bw_get S hK hI 0 0 rfl rfl (by decide) i_X0 f_X0_14 rfl dX0_writeOff_11 ?_
  refine lv_aload_n hx hb dX0_writeOff_14 rfl (lv_at hl 1 rfl) ?_
  refine bw_get S hK hI 0 2 rfl rfl (by decide) i_X0 f_X0_23 rfl dX0_writeOff_15 ?_
  refine lv_iload_n hx hb dX0_writeOff_18 rfl (lv_at hl 2 rfl) ?_
  refine lv_iconst (v := 0) hx hb dX0_writeOff_19 rfl ?_
  obtain ⟨r20, hc, h⟩ := bw_b1_e h
  refine bw_callV S hK hZ hI (mX3_get l G cy g (a 5) (a 6) 90 3 tl p1 0 r20 hc) Y_X3_get V_X3_get l_X0_51 ⟨(Nat.le_of_ble_eq_true rfl), (Nat.le_of_ble_eq_true rfl)⟩ (q0 := 0) rfl rfl rfl (ws' := (bw_dW cy a tp tk tl ts tq np nl)) (bw_pd2 cy a tp tk tl ts tq np nl) (bw_pd2 cy a tp tk tl ts tq np nl).symm rfl rfl hl.1 (rest := [.ref (a 1)]) (st1 := [.int r20, .ref (a 1)]) rfl rfl (Nat.le_of_ble_eq_true rfl) dX0_writeOff_20 ⟨(Nat.le_of_ble_eq_true rfl), (Nat.le_of_ble_eq_true rfl)⟩ (fun H locs hI => ?_)
  refine lv_bipush (v := 11) hx hb dX0_writeOff_23 (by decide) ?_
  refine lv_iload_n hx hb dX0_writeOff_25 rfl (lv_at hl 0 rfl) ?_
  obtain ⟨tp_26, hc, h⟩ := bw_b1_e h
  refine bw_callV S hK hZ hI (mX3_increase l G cy g (a 1) (a 2) 84 14 tp r20 11 r6 tp_26 hc) Y_X3_increase V_X3_increase l_X0_65 ⟨(Nat.le_of_ble_eq_true rfl), (Nat.le_of_ble_eq_true rfl)⟩ (q0 := 0) rfl rfl rfl (ws' := (bw_dW cy a tp_26 tk tl ts tq np nl)) (bw_pd0 cy a tp tk tl ts tq np nl) (bw_pd0 cy a tp_26 tk tl ts tq np nl).symm rfl rfl hl.1 (rest := []) (st1 := []) rfl rfl (Nat.le_of_ble_eq_true rfl) dX0_writeOff_26 ⟨(Nat.le_of_ble_eq_true rfl), (Nat.le_of_ble_eq_true rfl)⟩ (fun H locs hI => ?_)
  refine lv_aload_n hx hb dX0_writeOff_29 rfl (lv_at hl 1 rfl) ?_
  refine bw_get S hK hI 0 0 rfl rfl (by decide) i_X0 f_X0_14 rfl dX0_writeOff_30 ?_
  refine lv_aload_n hx hb dX0_writeOff_33 rfl (lv_at hl 1 rfl) ?_
  refine bw_get S hK hI 0 2 rfl rfl (by decide) i_X0 f_X0_23 rfl dX0_writeOff_34 ?_
  refine lv_iload_n hx hb dX0_writeOff_37 rfl (lv_at hl 2 rfl) ?_
  refine lv_iconst (v := 1) hx hb dX0_writeOff_38 rfl ?_
  obtain ⟨r39, hc, h⟩ := bw_b1_e h
  refine bw_callV S hK hZ hI (mX3_get l G cy g (a 5) (a 6) 90 3 tl p1 1 r39 hc) Y_X3_get V_X3_get l_X0_51 ⟨(Nat.le_of_ble_eq_true rfl), (Nat.le_of_ble_eq_true rfl)⟩ (q0 := 0) rfl rfl rfl (ws' := (bw_dW cy a tp_26 tk tl ts tq np nl)) (bw_pd2 cy a tp_26 tk tl ts tq np nl) (bw_pd2 cy a tp_26 tk tl ts tq np nl).symm rfl rfl hl.1 (rest := [.ref (a 1)]) (st1 := [.int r39, .ref (a 1)]) rfl rfl (Nat.le_of_ble_eq_true rfl) dX0_writeOff_39 ⟨(Nat.le_of_ble_eq_true rfl), (Nat.le_of_ble_eq_true rfl)⟩ (fun H locs hI => ?_)
  refine lv_bipush (v := 10) hx hb dX0_writeOff_42 (by decide) ?_
  refine lv_iload_n hx hb dX0_writeOff_44 rfl (lv_at hl 0 rfl) ?_
  obtain ⟨tp_45, hc, h⟩ := bw_b1_e h
  refine bw_callV S hK hZ hI (mX3_increase l G cy g (a 1) (a 2) 84 14 tp_26 r39 10 r6 tp_45 hc) Y_X3_increase V_X3_increase l_X0_65 ⟨(Nat.le_of_ble_eq_true rfl), (Nat.le_of_ble_eq_true rfl)⟩ (q0 := 0) rfl rfl rfl (ws' := (bw_dW cy a tp_45 tk tl ts tq np nl)) (bw_pd0 cy a tp_26 tk tl ts tq np nl) (bw_pd0 cy a tp_45 tk tl ts tq np nl).symm rfl rfl hl.1 (rest := []) (st1 := []) rfl rfl (Nat.le_of_ble_eq_true rfl) dX0_writeOff_45 ⟨(Nat.le_of_ble_eq_true rfl), (Nat.le_of_ble_eq_true rfl)⟩ (fun H locs hI => ?_)
  refine lv_aload_n hx hb dX0_writeOff_48 rfl (lv_at hl 1 rfl) ?_
  refine lv_iload_n hx hb dX0_writeOff_49 rfl (lv_at hl 2 rfl) ?_
  refine lv_iload_n hx hb dX0_writeOff_50 rfl (lv_at hl 0 rfl) ?_
  refine lv_ineg hx hb dX0_writeOff_51 ?_
  obtain ⟨tp_52, tl_52, nl_52, hc, h⟩ := bw_b3_e h
  refine bw_callV S hK hZ hI (mX0_changeLoan l G cy g a tp_45 tk tl ts tq np nl p1 (-r6) tp_52 tl_52 nl_52 hc) Y_X0_changeLoan V_X0_changeLoan l_X0_111 ⟨(Nat.le_of_ble_eq_true rfl), (Nat.le_of_ble_eq_true rfl)⟩ (q0 := 0) rfl rfl rfl (ws' := (bw_dW cy a tp_52 tk tl_52 ts tq np nl_52)) (bw_pS _) (bw_pS' _) rfl rfl hl.1 (rest := []) (st1 := []) rfl rfl (Nat.le_of_ble_eq_true rfl) dX0_writeOff_52 ⟨(Nat.le_of_ble_eq_true rfl), (Nat.le_of_ble_eq_true rfl)⟩ (fun H locs hI => ?_)
  refine lv_iload_n hx hb dX0_writeOff_55 rfl (lv_at hl 0 rfl) ?_
  exact bw_iret (d := (tp_52, tl_52, nl_52)) (rr := (r, tp', tl', nl')) S hr hlocks h (fun q : (bw_A1 × bw_A1 × Int32) => (bw_dW cy a q.1 tk q.2.1 ts tq np q.2.2)) hI rfl dX0_writeOff_56 hQ
set_option maxHeartbeats 4000000 in
set_option maxRecDepth 100000 in
theorem mX0_closeProject (l : Launch) (G : va_G) (cy : Nat → ClassId) (g : Nat) (a : Nat → Nat) (tp : bw_A1) (tk : bw_A1) (tl : bw_A1) (ts : bw_A1) (tq : bw_A1) (np : Int32) (nl : Int32) (p1 : Int32) (r : Int32) (tp' : bw_A1) (tl' : bw_A1) (nl' : Int32) (h : fX0_closeProject tp tl nl p1 = some (r, tp', tl', nl')) : bw_M l yX0_closeProject cX0_closeProject 5 (some .int) 4 98 G cy g [.ref (a 0), .int p1] (bw_dW cy a tp tk tl ts tq np nl) (some (.int r)) (bw_dW cy a tp' tk tl' ts tq np nl') := by
  refine bw_ofW (by decide +kernel) RX0 rfl (Nat.le_of_ble_eq_true rfl) ?_
  intro p e s m below meth c ls S hr hlocks hK hZ hI hl
  have hx := S.1
  have hb := S.2.1
  have hown := S.2.2.2.1
  have hts := S.2.2.2.2
  generalize va_A _ s.heap.size = A at hI hZ ⊢
  generalize hQ : MQ below _ _ s 0 0 A = Q
  have hl : lv_has ls 5 [(0, .ref (a 0)), (1, .int p1)] := hl
  have j69 : ∀ (tp : bw_A1) (tl : bw_A1) (nl : Int32) (x1 : Int32) (x2 : Int32) (x3 : Int32) (x4 : Int32) (k24 : bw_A1 → bw_A1 → Int32 → Int32 → Int32 → Int32 → Option (Int32 × bw_A1 × bw_A1 × Int32)) (hk24 : ∀ (H : Heap) (locs : List Loc) (ls : Array Slot) (tp_ : bw_A1) (tl_ : bw_A1) (nl_ : Int32) (x2_ : Int32) (x3_ : Int32) (x4_ : Int32), k24 tp_ tl_ nl_ x2_ x3_ x4_ = some (r, tp', tl', nl') → bw_I G A s.heap (bw_dW cy a tp_ tk tl_ ts tq np nl_) H locs → lv_has ls 5 [(0, .ref (a 0)), (1, .int x1), (2, .int x2_), (3, .int x3_), (4, .int x4_)] → W p l e (bw_rm 4 98) s m [.ref (a 0), .int p1].toArray below meth c H locs 0 0 Q (F0 m 24 ls [])) (H : Heap) (locs : List Loc) (ls : Array Slot), jX0_closeProject_69 k24 tp tl nl x1 x2 x3 x4 = some (r, tp', tl', nl') → bw_I G A s.heap (bw_dW cy a tp tk tl ts tq np nl) H locs → lv_has ls 5 [(0, .ref (a 0)), (1, .int x1), (2, .int x2), (3, .int x3), (4, .int x4)] → W p l e (bw_rm 4 98) s m [.ref (a 0), .int p1].toArray below meth c H locs 0 0 Q (F0 m 69 ls []) := by
    intro tp tl nl x1 x2 x3 x4 k24 hk24 H locs ls h hI hl
    unfold jX0_closeProject_69 at h
    obtain ⟨x4_69, e_69⟩ : ∃ y : Int32, y = x4 + (-1) := ⟨_, rfl⟩
    have h := bw_let_e h e_69
    refine lv_iinc (v := x4_69) (lv' := [(4, .int x4_69), (0, .ref (a 0)), (1, .int x1), (2, .int x2), (3, .int x3)]) hx hb dX0_closeProject_69 hl (k := 4) rfl (by rw [e_69]; rfl) (by decide) rfl (fun ls hl => ?_)
    clear e_69
    refine lv_goto (tgt := 24) hx hb dX0_closeProject_72 (by decide) ?_
    exact hk24 _ _ _ tp tl nl x2 x3 x4_69 h hI (lv_sub hl [1,2,3,4,0] rfl)
  have j55 : ∀ (tp : bw_A1) (tl : bw_A1) (nl : Int32) (x1 : Int32) (x2 : Int32) (x3 : Int32) (x4 : Int32) (k24 : bw_A1 → bw_A1 → Int32 → Int32 → Int32 → Int32 → Option (Int32 × bw_A1 × bw_A1 × Int32)) (hk24 : ∀ (H : Heap) (locs : List Loc) (ls : Array Slot) (tp_ : bw_A1) (tl_ : bw_A1) (nl_ : Int32) (x2_ : Int32) (x3_ : Int32) (x4_ : Int32), k24 tp_ tl_ nl_ x2_ x3_ x4_ = some (r, tp', tl', nl') → bw_I G A s.heap (bw_dW cy a tp_ tk tl_ ts tq np nl_) H locs → lv_has ls 5 [(0, .ref (a 0)), (1, .int x1), (2, .int x2_), (3, .int x3_), (4, .int x4_)] → W p l e (bw_rm 4 98) s m [.ref (a 0), .int p1].toArray below meth c H locs 0 0 Q (F0 m 24 ls [])) (H : Heap) (locs : List Loc) (ls : Array Slot), jX0_closeProject_55 k24 tp tl nl x1 x2 x3 x4 = some (r, tp', tl', nl') → bw_I G A s.heap (bw_dW cy a tp tk tl ts tq np nl) H locs → lv_has ls 5 [(0, .ref (a 0)), (1, .int x1), (2, .int x2), (3, .int x3), (4, .int x4)] → W p l e (bw_rm 4 98) s m [.ref (a 0), .int p1].toArray below meth c H locs 0 0 Q (F0 m 55 ls []) := by
    intro tp tl nl x1 x2 x3 x4 k24 hk24 H locs ls h hI hl
    unfold jX0_closeProject_55 at h
    refine lv_iload_n hx hb dX0_closeProject_55 rfl (lv_at hl 2 rfl) ?_
    refine lv_aload_n hx hb dX0_closeProject_56 rfl (lv_at hl 0 rfl) ?_
    refine lv_iload_n hx hb dX0_closeProject_57 rfl (lv_at hl 3 rfl) ?_
    obtain ⟨r58, tp_58, tl_58, nl_58, hc, h⟩ := bw_b4_e h
    refine bw_callV S hK hZ hI (mX0_writeOff l G cy g a tp tk tl ts tq np nl x3 r58 tp_58 tl_58 nl_58 hc) Y_X0_writeOff V_X0_writeOff l_X0_120 ⟨(Nat.le_of_ble_eq_true rfl), (Nat.le_of_ble_eq_true rfl)⟩ (q0 := 0) rfl rfl rfl (ws' := (bw_dW cy a tp_58 tk tl_58 ts tq np nl_58)) (bw_pS _) (bw_pS' _) rfl rfl hl.1 (rest := [.int x2]) (st1 := [.int r58, .int x2]) rfl rfl (Nat.le_of_ble_eq_true rfl) dX0_closeProject_58 ⟨(Nat.le_of_ble_eq_true rfl), (Nat.le_of_ble_eq_true rfl)⟩ (fun H locs hI => ?_)
    refine lv_iadd hx hb dX0_closeProject_61 ?_
    refine lv_topi (fun x2_62 e_62 => ?_)
    have h := bw_let_e h e_62
    clear e_62
    refine lv_istore_n (lv' := [(2, .int x2_62), (0, .ref (a 0)), (1, .int x1), (3, .int x3), (4, .int x4)]) hx hb dX0_closeProject_62 rfl hl (by decide) rfl (fun ls hl => ?_)
    refine lv_goto (tgt := 69) hx hb dX0_closeProject_63 (by decide) ?_
    exact j69 tp_58 tl_58 nl_58 x1 x2_62 x3 x4 k24 hk24 _ _ _ h hI (lv_sub hl [1,2,0,3,4] rfl)
  have l24 : ∀ (x1 : Int32) (n : Nat) (H : Heap) (locs : List Loc) (ls : Array Slot) (tp : bw_A1) (tl : bw_A1) (nl : Int32) (x2 : Int32) (x3 : Int32) (x4 : Int32), lX0_closeProject_24 x1 n tp tl nl x2 x3 x4 = some (r, tp', tl', nl') → bw_I G A s.heap (bw_dW cy a tp tk tl ts tq np nl) H locs → lv_has ls 5 [(0, .ref (a 0)), (1, .int x1), (2, .int x2), (3, .int x3), (4, .int x4)] → W p l e (bw_rm 4 98) s m [.ref (a 0), .int p1].toArray below meth c H locs 0 0 Q (F0 m 24 ls []) := by
    intro x1 n
    induction n with
    | zero => intro H locs ls tp tl nl x2 x3 x4 h; exact bw_none h
    | succ n ih =>
      intro H locs ls tp tl nl x2 x3 x4 h hI hl
      have h : bX0_closeProject_24  (lX0_closeProject_24 x1 n) x1 tp tl nl x2 x3 x4 = some (r, tp', tl', nl') := h
      unfold bX0_closeProject_24 at h
      refine lv_iload hx hb dX0_closeProject_24 (lv_at hl 4 rfl) ?_
      refine lv_if_le (tgt := 75) hx hb dX0_closeProject_26 (by decide) (fun c_26 => ?_) (fun c_26 => ?_)
      · rw [if_pos c_26] at h
        refine lv_aload_n hx hb dX0_closeProject_75 rfl (lv_at hl 0 rfl) ?_
        refine bw_get S hK hI 0 0 rfl rfl (by decide) i_X0 f_X0_14 rfl dX0_closeProject_76 ?_
        refine lv_iload_n hx hb dX0_closeProject_79 rfl (lv_at hl 1 rfl) ?_
        refine lv_bipush (v := 9) hx hb dX0_closeProject_80 (by decide) ?_
        refine lv_iconst (v := 0) hx hb dX0_closeProject_82 rfl ?_
        obtain ⟨tp_83, hc, h⟩ := bw_b1_e h
        refine bw_callV S hK hZ hI (mX3_put l G cy g (a 1) (a 2) 84 14 tp x1 9 0 tp_83 hc) Y_X3_put V_X3_put l_X0_36 ⟨(Nat.le_of_ble_eq_true rfl), (Nat.le_of_ble_eq_true rfl)⟩ (q0 := 0) rfl rfl rfl (ws' := (bw_dW cy a tp_83 tk tl ts tq np nl)) (bw_pd0 cy a tp tk tl ts tq np nl) (bw_pd0 cy a tp_83 tk tl ts tq np nl).symm rfl rfl hl.1 (rest := []) (st1 := []) rfl rfl (Nat.le_of_ble_eq_true rfl) dX0_closeProject_83 ⟨(Nat.le_of_ble_eq_true rfl), (Nat.le_of_ble_eq_true rfl)⟩ (fun H locs hI => ?_)
        refine lv_iload_n hx hb dX0_closeProject_86 rfl (lv_at hl 2 rfl) ?_
        exact bw_iret (d := (tp_83, tl, nl)) (rr := (r, tp', tl', nl')) S hr hlocks h (fun q : (bw_A1 × bw_A1 × Int32) => (bw_dW cy a q.1 tk q.2.1 ts tq np q.2.2)) hI rfl dX0_closeProject_87 hQ
      rw [if_neg c_26] at h
      refine lv_aload_n hx hb dX0_closeProject_29 rfl (lv_at hl 0 rfl) ?_
      refine bw_get S hK hI 0 2 rfl rfl (by decide) i_X0 f_X0_23 rfl dX0_closeProject_30 ?_
      refine lv_iload_n hx hb dX0_closeProject_33 rfl (lv_at hl 3 rfl) ?_
      refine lv_iconst (v := 0) hx hb dX0_closeProject_34 rfl ?_
      obtain ⟨r35, hc, h⟩ := bw_b1_e h
      refine bw_callV S hK hZ hI (mX3_get l G cy g (a 5) (a 6) 90 3 tl x3 0 r35 hc) Y_X3_get V_X3_get l_X0_51 ⟨(Nat.le_of_ble_eq_true rfl), (Nat.le_of_ble_eq_true rfl)⟩ (q0 := 0) rfl rfl rfl (ws' := (bw_dW cy a tp tk tl ts tq np nl)) (bw_pd2 cy a tp tk tl ts tq np nl) (bw_pd2 cy a tp tk tl ts tq np nl).symm rfl rfl hl.1 (rest := []) (st1 := [.int r35]) rfl rfl (Nat.le_of_ble_eq_true rfl) dX0_closeProject_35 ⟨(Nat.le_of_ble_eq_true rfl), (Nat.le_of_ble_eq_true rfl)⟩ (fun H locs hI => ?_)
      refine lv_iload_n hx hb dX0_closeProject_38 rfl (lv_at hl 1 rfl) ?_
      refine lv_icmp_eq (tgt := 55) hx hb dX0_closeProject_39 (by decide) (fun c_39 => ?_) (fun c_39 => ?_)
      · rw [if_pos c_39] at h
        exact j55 tp tl nl x1 x2 x3 x4 (lX0_closeProject_24 x1 n) ih _ _ _ h hI (lv_sub hl [0,1,2,3,4] rfl)
      rw [if_neg c_39] at h
      refine lv_aload_n hx hb dX0_closeProject_42 rfl (lv_at hl 0 rfl) ?_
      refine bw_get S hK hI 0 2 rfl rfl (by decide) i_X0 f_X0_23 rfl dX0_closeProject_43 ?_
      refine lv_iload_n hx hb dX0_closeProject_46 rfl (lv_at hl 3 rfl) ?_
      refine lv_iconst (v := 1) hx hb dX0_closeProject_47 rfl ?_
      obtain ⟨r48, hc, h⟩ := bw_b1_e h
      refine bw_callV S hK hZ hI (mX3_get l G cy g (a 5) (a 6) 90 3 tl x3 1 r48 hc) Y_X3_get V_X3_get l_X0_51 ⟨(Nat.le_of_ble_eq_true rfl), (Nat.le_of_ble_eq_true rfl)⟩ (q0 := 0) rfl rfl rfl (ws' := (bw_dW cy a tp tk tl ts tq np nl)) (bw_pd2 cy a tp tk tl ts tq np nl) (bw_pd2 cy a tp tk tl ts tq np nl).symm rfl rfl hl.1 (rest := []) (st1 := [.int r48]) rfl rfl (Nat.le_of_ble_eq_true rfl) dX0_closeProject_48 ⟨(Nat.le_of_ble_eq_true rfl), (Nat.le_of_ble_eq_true rfl)⟩ (fun H locs hI => ?_)
      refine lv_iload_n hx hb dX0_closeProject_51 rfl (lv_at hl 1 rfl) ?_
      refine lv_icmp_ne (tgt := 66) hx hb dX0_closeProject_52 (by decide) (fun c_52 => ?_) (fun c_52 => ?_)
      · rw [if_neg c_52] at h
        obtain ⟨x3_66, e_66⟩ : ∃ y : Int32, y = x3 + 1 := ⟨_, rfl⟩
        have h := bw_let_e h e_66
        refine lv_iinc (v := x3_66) (lv' := [(3, .int x3_66), (0, .ref (a 0)), (1, .int x1), (2, .int x2), (4, .int x4)]) hx hb dX0_closeProject_66 hl (k := 3) rfl (by rw [e_66]; rfl) (by decide) rfl (fun ls hl => ?_)
        clear e_66
        exact j69 tp tl nl x1 x2 x3_66 x4 (lX0_closeProject_24 x1 n) ih _ _ _ h hI (lv_sub hl [1,2,3,0,4] rfl)
      rw [if_pos c_52] at h
      exact j55 tp tl nl x1 x2 x3 x4 (lX0_closeProject_24 x1 n) ih _ _ _ h hI (lv_sub hl [0,1,2,3,4] rfl)
  unfold fX0_closeProject at h
  refine lv_aload_n hx hb dX0_closeProject_0 rfl (lv_at hl 0 rfl) ?_
  refine lv_iload_n hx hb dX0_closeProject_1 rfl (lv_at hl 1 rfl) ?_
  refine lv_aload_n hx hb dX0_closeProject_2 rfl (lv_at hl 0 rfl) ?_
  refine bw_get S hK hI 0 0 rfl rfl (by decide) i_X0 f_X0_14 rfl dX0_closeProject_3 ?_
  refine lv_iload_n hx hb dX0_closeProject_6 rfl (lv_at hl 1 rfl) ?_
  refine lv_iconst (v := 2) hx hb dX0_closeProject_7 rfl ?_
  obtain ⟨r8, hc, h⟩ := bw_b1_e h
  refine bw_callV S hK hZ hI (mX3_get l G cy g (a 1) (a 2) 84 14 tp p1 2 r8 hc) Y_X3_get V_X3_get l_X0_51 ⟨(Nat.le_of_ble_eq_true rfl), (Nat.le_of_ble_eq_true rfl)⟩ (q0 := 0) rfl rfl rfl (ws' := (bw_dW cy a tp tk tl ts tq np nl)) (bw_pd0 cy a tp tk tl ts tq np nl) (bw_pd0 cy a tp tk tl ts tq np nl).symm rfl rfl hl.1 (rest := [.int p1, .ref (a 0)]) (st1 := [.int r8, .int p1, .ref (a 0)]) rfl rfl (Nat.le_of_ble_eq_true rfl) dX0_closeProject_8 ⟨(Nat.le_of_ble_eq_true rfl), (Nat.le_of_ble_eq_true rfl)⟩ (fun H locs hI => ?_)
  obtain ⟨tp_11, tl_11, nl_11, hc, h⟩ := bw_b3_e h
  refine bw_callV S hK hZ hI (mX0_repay l G cy g a tp tk tl ts tq np nl p1 r8 tp_11 tl_11 nl_11 hc) Y_X0_repay V_X0_repay l_X0_76 ⟨(Nat.le_of_ble_eq_true rfl), (Nat.le_of_ble_eq_true rfl)⟩ (q0 := 0) rfl rfl rfl (ws' := (bw_dW cy a tp_11 tk tl_11 ts tq np nl_11)) (bw_pS _) (bw_pS' _) rfl rfl hl.1 (rest := []) (st1 := []) rfl rfl (Nat.le_of_ble_eq_true rfl) dX0_closeProject_11 ⟨(Nat.le_of_ble_eq_true rfl), (Nat.le_of_ble_eq_true rfl)⟩ (fun H locs hI => ?_)
  refine lv_iconst (v := 0) hx hb dX0_closeProject_14 rfl ?_
  refine lv_istore_n (lv' := [(2, .int 0), (0, .ref (a 0)), (1, .int p1)]) hx hb dX0_closeProject_15 rfl hl (by decide) rfl (fun ls hl => ?_)
  refine lv_iconst (v := 0) hx hb dX0_closeProject_16 rfl ?_
  refine lv_istore_n (lv' := [(3, .int 0), (2, .int 0), (0, .ref (a 0)), (1, .int p1)]) hx hb dX0_closeProject_17 rfl hl (by decide) rfl (fun ls hl => ?_)
  refine lv_aload_n hx hb dX0_closeProject_18 rfl (lv_at hl 2 rfl) ?_
  refine bw_get S hK hI 0 6 rfl rfl (by decide) i_X0 f_X0_48 rfl dX0_closeProject_19 ?_
  refine lv_istore (lv' := [(4, .int nl_11), (3, .int 0), (2, .int 0), (0, .ref (a 0)), (1, .int p1)]) hx hb dX0_closeProject_22 hl (by decide) rfl (fun ls hl => ?_)
  exact l24 p1 bw_fu _ _ _ tp_11 tl_11 nl_11 0 0 nl_11 h hI (lv_sub hl [3,4,2,1,0] rfl)
set_option maxHeartbeats 4000000 in
set_option maxRecDepth 100000 in
theorem mX0_taskPart (l : Launch) (G : va_G) (cy : Nat → ClassId) (g : Nat) (a : Nat → Nat) (tp : bw_A1) (tk : bw_A1) (tl : bw_A1) (ts : bw_A1) (tq : bw_A1) (np : Int32) (nl : Int32) (p1 : Int32) (p2 : Int32) (p3 : Int32) (r : Int32) (h : fX0_taskPart tk p1 p2 p3 = some r) : bw_M l yX0_taskPart cX0_taskPart 4 (some .int) 1 23 G cy g [.ref (a 0), .int p1, .int p2, .int p3] (bw_dW cy a tp tk tl ts tq np nl) (some (.int r)) (bw_dW cy a tp tk tl ts tq np nl) := by
  refine bw_ofW (by decide +kernel) RX0 rfl (Nat.le_of_ble_eq_true rfl) ?_
  intro p e s m below meth c ls S hr hlocks hK hZ hI hl
  have hx := S.1
  have hb := S.2.1
  have hown := S.2.2.2.1
  have hts := S.2.2.2.2
  generalize va_A _ s.heap.size = A at hI hZ ⊢
  generalize hQ : MQ below _ _ s 0 0 A = Q
  have hl : lv_has ls 4 [(0, .ref (a 0)), (1, .int p1), (2, .int p2), (3, .int p3)] := hl
  unfold fX0_taskPart at h
  refine lv_aload_n hx hb dX0_taskPart_0 rfl (lv_at hl 0 rfl) ?_
  refine bw_get S hK hI 0 1 rfl rfl (by decide) i_X0 f_X0_20 rfl dX0_taskPart_1 ?_
  refine lv_iload_n hx hb dX0_taskPart_4 rfl (lv_at hl 1 rfl) ?_
  refine lv_iload_n hx hb dX0_taskPart_5 rfl (lv_at hl 2 rfl) ?_
  obtain ⟨r6, hc, h⟩ := bw_b1_e h
  refine bw_callP S hK hZ hI (mX0_rowOfTask l G cy g p1 p2 r6 hc) Y_X0_rowOfTask V_X0_rowOfTask l_X0_62 ⟨(Nat.le_of_ble_eq_true rfl), (Nat.le_of_ble_eq_true rfl)⟩ (rest := [.ref (a 3)]) (st1 := [.int r6, .ref (a 3)]) rfl hl.1 rfl rfl (Nat.le_of_ble_eq_true rfl) dX0_taskPart_6 ⟨(Nat.le_of_ble_eq_true rfl), (Nat.le_of_ble_eq_true rfl)⟩ (fun H locs hI => ?_)
  refine lv_iload_n hx hb dX0_taskPart_9 rfl (lv_at hl 3 rfl) ?_
  obtain ⟨r10, hc, h⟩ := bw_b1_e h
  refine bw_callV S hK hZ hI (mX3_get l G cy g (a 3) (a 4) 288 6 tk r6 p3 r10 hc) Y_X3_get V_X3_get l_X0_51 ⟨(Nat.le_of_ble_eq_true rfl), (Nat.le_of_ble_eq_true rfl)⟩ (q0 := 0) rfl rfl rfl (ws' := (bw_dW cy a tp tk tl ts tq np nl)) (bw_pd1 cy a tp tk tl ts tq np nl) (bw_pd1 cy a tp tk tl ts tq np nl).symm rfl rfl hl.1 (rest := []) (st1 := [.int r10]) rfl rfl (Nat.le_of_ble_eq_true rfl) dX0_taskPart_10 ⟨(Nat.le_of_ble_eq_true rfl), (Nat.le_of_ble_eq_true rfl)⟩ (fun H locs hI => ?_)
  exact bw_iretP S hr hlocks h hI rfl dX0_taskPart_13 hQ
set_option maxHeartbeats 4000000 in
set_option maxRecDepth 100000 in
theorem mX0_loans (l : Launch) (G : va_G) (cy : Nat → ClassId) (g : Nat) (a : Nat → Nat) (tp : bw_A1) (tk : bw_A1) (tl : bw_A1) (ts : bw_A1) (tq : bw_A1) (np : Int32) (nl : Int32) (r : Int32) (h : fX0_loans nl = some r) : bw_M l yX0_loans cX0_loans 1 (some .int) 0 0 G cy g [.ref (a 0)] (bw_dW cy a tp tk tl ts tq np nl) (some (.int r)) (bw_dW cy a tp tk tl ts tq np nl) := by
  refine bw_ofW (by decide +kernel) RX0 rfl (Nat.le_of_ble_eq_true rfl) ?_
  intro p e s m below meth c ls S hr hlocks hK hZ hI hl
  have hx := S.1
  have hb := S.2.1
  have hown := S.2.2.2.1
  have hts := S.2.2.2.2
  generalize va_A _ s.heap.size = A at hI hZ ⊢
  generalize hQ : MQ below _ _ s 0 0 A = Q
  have hl : lv_has ls 1 [(0, .ref (a 0))] := hl
  unfold fX0_loans at h
  refine lv_aload_n hx hb dX0_loans_0 rfl (lv_at hl 0 rfl) ?_
  refine bw_get S hK hI 0 6 rfl rfl (by decide) i_X0 f_X0_48 rfl dX0_loans_1 ?_
  exact bw_iretP S hr hlocks h hI rfl dX0_loans_4 hQ
set_option maxHeartbeats 4000000 in
set_option maxRecDepth 100000 in
theorem mX0_loanPart (l : Launch) (G : va_G) (cy : Nat → ClassId) (g : Nat) (a : Nat → Nat) (tp : bw_A1) (tk : bw_A1) (tl : bw_A1) (ts : bw_A1) (tq : bw_A1) (np : Int32) (nl : Int32) (p1 : Int32) (p2 : Int32) (r : Int32) (h : fX0_loanPart tl p1 p2 = some r) : bw_M l yX0_loanPart cX0_loanPart 3 (some .int) 1 23 G cy g [.ref (a 0), .int p1, .int p2] (bw_dW cy a tp tk tl ts tq np nl) (some (.int r)) (bw_dW cy a tp tk tl ts tq np nl) := by
  refine bw_ofW (by decide +kernel) RX0 rfl (Nat.le_of_ble_eq_true rfl) ?_
  intro p e s m below meth c ls S hr hlocks hK hZ hI hl
  have hx := S.1
  have hb := S.2.1
  have hown := S.2.2.2.1
  have hts := S.2.2.2.2
  generalize va_A _ s.heap.size = A at hI hZ ⊢
  generalize hQ : MQ below _ _ s 0 0 A = Q
  have hl : lv_has ls 3 [(0, .ref (a 0)), (1, .int p1), (2, .int p2)] := hl
  unfold fX0_loanPart at h
  refine lv_aload_n hx hb dX0_loanPart_0 rfl (lv_at hl 0 rfl) ?_
  refine bw_get S hK hI 0 2 rfl rfl (by decide) i_X0 f_X0_23 rfl dX0_loanPart_1 ?_
  refine lv_iload_n hx hb dX0_loanPart_4 rfl (lv_at hl 1 rfl) ?_
  refine lv_iload_n hx hb dX0_loanPart_5 rfl (lv_at hl 2 rfl) ?_
  obtain ⟨r6, hc, h⟩ := bw_b1_e h
  refine bw_callV S hK hZ hI (mX3_get l G cy g (a 5) (a 6) 90 3 tl p1 p2 r6 hc) Y_X3_get V_X3_get l_X0_51 ⟨(Nat.le_of_ble_eq_true rfl), (Nat.le_of_ble_eq_true rfl)⟩ (q0 := 0) rfl rfl rfl (ws' := (bw_dW cy a tp tk tl ts tq np nl)) (bw_pd2 cy a tp tk tl ts tq np nl) (bw_pd2 cy a tp tk tl ts tq np nl).symm rfl rfl hl.1 (rest := []) (st1 := [.int r6]) rfl rfl (Nat.le_of_ble_eq_true rfl) dX0_loanPart_6 ⟨(Nat.le_of_ble_eq_true rfl), (Nat.le_of_ble_eq_true rfl)⟩ (fun H locs hI => ?_)
  exact bw_iretP S hr hlocks h hI rfl dX0_loanPart_9 hQ
set_option maxHeartbeats 4000000 in
set_option maxRecDepth 100000 in
theorem mX0_lenderAt (l : Launch) (G : va_G) (cy : Nat → ClassId) (g : Nat) (a : Nat → Nat) (tp : bw_A1) (tk : bw_A1) (tl : bw_A1) (ts : bw_A1) (tq : bw_A1) (np : Int32) (nl : Int32) (p1 : Int32) (p2 : Int32) (r : Int32) (tq' : bw_A1) (h : fX0_lenderAt tp ts tq np p1 p2 = some (r, tq')) : bw_M l yX0_lenderAt cX0_lenderAt 3 (some .int) 3 72 G cy g [.ref (a 0), .int p1, .int p2] (bw_dW cy a tp tk tl ts tq np nl) (some (.int r)) (bw_dW cy a tp tk tl ts tq' np nl) := by
  refine bw_ofW (by decide +kernel) RX0 rfl (Nat.le_of_ble_eq_true rfl) ?_
  intro p e s m below meth c ls S hr hlocks hK hZ hI hl
  have hx := S.1
  have hb := S.2.1
  have hown := S.2.2.2.1
  have hts := S.2.2.2.2
  generalize va_A _ s.heap.size = A at hI hZ ⊢
  generalize hQ : MQ below _ _ s 0 0 A = Q
  have hl : lv_has ls 3 [(0, .ref (a 0)), (1, .int p1), (2, .int p2)] := hl
  unfold fX0_lenderAt at h
  refine lv_aload_n hx hb dX0_lenderAt_0 rfl (lv_at hl 0 rfl) ?_
  refine lv_iload_n hx hb dX0_lenderAt_1 rfl (lv_at hl 1 rfl) ?_
  obtain ⟨r2, hc, h⟩ := bw_b1_e h
  refine bw_callV S hK hZ hI (mX0_isOpen l G cy g a tp tk tl ts tq np nl p1 r2 hc) Y_X0_isOpen V_X0_isOpen l_X0_55 ⟨(Nat.le_of_ble_eq_true rfl), (Nat.le_of_ble_eq_true rfl)⟩ (q0 := 0) rfl rfl rfl (ws' := (bw_dW cy a tp tk tl ts tq np nl)) (bw_pS _) (bw_pS' _) rfl rfl hl.1 (rest := []) (st1 := [.int r2]) rfl rfl (Nat.le_of_ble_eq_true rfl) dX0_lenderAt_2 ⟨(Nat.le_of_ble_eq_true rfl), (Nat.le_of_ble_eq_true rfl)⟩ (fun H locs hI => ?_)
  refine lv_if_eq (tgt := 17) hx hb dX0_lenderAt_5 (by decide) (fun c_5 => ?_) (fun c_5 => ?_)
  · rw [if_pos c_5] at h
    refine lv_iconst (v := (-1)) hx hb dX0_lenderAt_17 rfl ?_
    exact bw_iret (d := tq) (rr := (r, tq')) S hr hlocks h (fun q : bw_A1 => (bw_dW cy a tp tk tl ts q np nl)) hI rfl dX0_lenderAt_18 hQ
  rw [if_neg c_5] at h
  refine lv_iload_n hx hb dX0_lenderAt_8 rfl (lv_at hl 2 rfl) ?_
  refine lv_aload_n hx hb dX0_lenderAt_9 rfl (lv_at hl 0 rfl) ?_
  refine lv_iload_n hx hb dX0_lenderAt_10 rfl (lv_at hl 1 rfl) ?_
  obtain ⟨r11, tq_11, hc, h⟩ := bw_b2_e h
  refine bw_callV S hK hZ hI (mX0_queueLenders l G cy g a tp tk tl ts tq np nl p1 r11 tq_11 hc) Y_X0_queueLenders V_X0_queueLenders l_X0_94 ⟨(Nat.le_of_ble_eq_true rfl), (Nat.le_of_ble_eq_true rfl)⟩ (q0 := 0) rfl rfl rfl (ws' := (bw_dW cy a tp tk tl ts tq_11 np nl)) (bw_pS _) (bw_pS' _) rfl rfl hl.1 (rest := [.int p2]) (st1 := [.int r11, .int p2]) rfl rfl (Nat.le_of_ble_eq_true rfl) dX0_lenderAt_11 ⟨(Nat.le_of_ble_eq_true rfl), (Nat.le_of_ble_eq_true rfl)⟩ (fun H locs hI => ?_)
  refine lv_icmp_lt (tgt := 19) hx hb dX0_lenderAt_14 (by decide) (fun c_14 => ?_) (fun c_14 => ?_)
  · rw [if_pos c_14] at h
    refine lv_aload_n hx hb dX0_lenderAt_19 rfl (lv_at hl 0 rfl) ?_
    refine bw_get S hK hI 0 4 rfl rfl (by decide) i_X0 f_X0_33 rfl dX0_lenderAt_20 ?_
    refine lv_iload_n hx hb dX0_lenderAt_23 rfl (lv_at hl 2 rfl) ?_
    refine lv_iconst (v := 0) hx hb dX0_lenderAt_24 rfl ?_
    obtain ⟨r25, hc, h⟩ := bw_b1_e h
    refine bw_callV S hK hZ hI (mX3_get l G cy g (a 9) (a 10) 18 3 tq_11 p2 0 r25 hc) Y_X3_get V_X3_get l_X0_51 ⟨(Nat.le_of_ble_eq_true rfl), (Nat.le_of_ble_eq_true rfl)⟩ (q0 := 0) rfl rfl rfl (ws' := (bw_dW cy a tp tk tl ts tq_11 np nl)) (bw_pd4 cy a tp tk tl ts tq_11 np nl) (bw_pd4 cy a tp tk tl ts tq_11 np nl).symm rfl rfl hl.1 (rest := []) (st1 := [.int r25]) rfl rfl (Nat.le_of_ble_eq_true rfl) dX0_lenderAt_25 ⟨(Nat.le_of_ble_eq_true rfl), (Nat.le_of_ble_eq_true rfl)⟩ (fun H locs hI => ?_)
    exact bw_iret (d := tq_11) (rr := (r, tq')) S hr hlocks h (fun q : bw_A1 => (bw_dW cy a tp tk tl ts q np nl)) hI rfl dX0_lenderAt_28 hQ
  rw [if_neg c_14] at h
  refine lv_iconst (v := (-1)) hx hb dX0_lenderAt_17 rfl ?_
  exact bw_iret (d := tq_11) (rr := (r, tq')) S hr hlocks h (fun q : bw_A1 => (bw_dW cy a tp tk tl ts q np nl)) hI rfl dX0_lenderAt_18 hQ
set_option maxHeartbeats 4000000 in
set_option maxRecDepth 100000 in
theorem mX0_sumOfProjects (l : Launch) (G : va_G) (cy : Nat → ClassId) (g : Nat) (a : Nat → Nat) (tp : bw_A1) (tk : bw_A1) (tl : bw_A1) (ts : bw_A1) (tq : bw_A1) (np : Int32) (nl : Int32) (p1 : Int32) (r : Int32) (h : fX0_sumOfProjects tp np p1 = some r) : bw_M l yX0_sumOfProjects cX0_sumOfProjects 4 (some .int) 1 23 G cy g [.ref (a 0), .int p1] (bw_dW cy a tp tk tl ts tq np nl) (some (.int r)) (bw_dW cy a tp tk tl ts tq np nl) := by
  refine bw_ofW (by decide +kernel) RX0 rfl (Nat.le_of_ble_eq_true rfl) ?_
  intro p e s m below meth c ls S hr hlocks hK hZ hI hl
  have hx := S.1
  have hb := S.2.1
  have hown := S.2.2.2.1
  have hts := S.2.2.2.2
  generalize va_A _ s.heap.size = A at hI hZ ⊢
  generalize hQ : MQ below _ _ s 0 0 A = Q
  have hl : lv_has ls 4 [(0, .ref (a 0)), (1, .int p1)] := hl
  have l4 : ∀ (x1 : Int32) (n : Nat) (H : Heap) (locs : List Loc) (ls : Array Slot) (x2 : Int32) (x3 : Int32), lX0_sumOfProjects_4 tp np x1 n x2 x3 = some r → bw_I G A s.heap (bw_dW cy a tp tk tl ts tq np nl) H locs → lv_has ls 4 [(0, .ref (a 0)), (1, .int x1), (2, .int x2), (3, .int x3)] → W p l e (bw_rm 1 23) s m [.ref (a 0), .int p1].toArray below meth c H locs 0 0 Q (F0 m 4 ls []) := by
    intro x1 n
    induction n with
    | zero => intro H locs ls x2 x3 h; exact bw_none h
    | succ n ih =>
      intro H locs ls x2 x3 h hI hl
      have h : bX0_sumOfProjects_4  (lX0_sumOfProjects_4 tp np x1 n) tp np x1 x2 x3 = some r := h
      unfold bX0_sumOfProjects_4 at h
      refine lv_iload_n hx hb dX0_sumOfProjects_4 rfl (lv_at hl 3 rfl) ?_
      refine lv_aload_n hx hb dX0_sumOfProjects_5 rfl (lv_at hl 0 rfl) ?_
      refine bw_get S hK hI 0 5 rfl rfl (by decide) i_X0 f_X0_44 rfl dX0_sumOfProjects_6 ?_
      refine lv_icmp_ge (tgt := 30) hx hb dX0_sumOfProjects_9 (by decide) (fun c_9 => ?_) (fun c_9 => ?_)
      · rw [if_pos c_9] at h
        refine lv_iload_n hx hb dX0_sumOfProjects_30 rfl (lv_at hl 2 rfl) ?_
        exact bw_iretP S hr hlocks h hI rfl dX0_sumOfProjects_31 hQ
      rw [if_neg c_9] at h
      refine lv_iload_n hx hb dX0_sumOfProjects_12 rfl (lv_at hl 2 rfl) ?_
      refine lv_aload_n hx hb dX0_sumOfProjects_13 rfl (lv_at hl 0 rfl) ?_
      refine bw_get S hK hI 0 0 rfl rfl (by decide) i_X0 f_X0_14 rfl dX0_sumOfProjects_14 ?_
      refine lv_iload_n hx hb dX0_sumOfProjects_17 rfl (lv_at hl 3 rfl) ?_
      refine lv_iload_n hx hb dX0_sumOfProjects_18 rfl (lv_at hl 1 rfl) ?_
      obtain ⟨r19, hc, h⟩ := bw_b1_e h
      refine bw_callV S hK hZ hI (mX3_get l G cy g (a 1) (a 2) 84 14 tp x3 x1 r19 hc) Y_X3_get V_X3_get l_X0_51 ⟨(Nat.le_of_ble_eq_true rfl), (Nat.le_of_ble_eq_true rfl)⟩ (q0 := 0) rfl rfl rfl (ws' := (bw_dW cy a tp tk tl ts tq np nl)) (bw_pd0 cy a tp tk tl ts tq np nl) (bw_pd0 cy a tp tk tl ts tq np nl).symm rfl rfl hl.1 (rest := [.int x2]) (st1 := [.int r19, .int x2]) rfl rfl (Nat.le_of_ble_eq_true rfl) dX0_sumOfProjects_19 ⟨(Nat.le_of_ble_eq_true rfl), (Nat.le_of_ble_eq_true rfl)⟩ (fun H locs hI => ?_)
      refine lv_iadd hx hb dX0_sumOfProjects_22 ?_
      refine lv_topi (fun x2_23 e_23 => ?_)
      have h := bw_let_e h e_23
      clear e_23
      refine lv_istore_n (lv' := [(2, .int x2_23), (0, .ref (a 0)), (1, .int x1), (3, .int x3)]) hx hb dX0_sumOfProjects_23 rfl hl (by decide) rfl (fun ls hl => ?_)
      obtain ⟨x3_24, e_24⟩ : ∃ y : Int32, y = x3 + 1 := ⟨_, rfl⟩
      have h := bw_let_e h e_24
      refine lv_iinc (v := x3_24) (lv' := [(3, .int x3_24), (2, .int x2_23), (0, .ref (a 0)), (1, .int x1)]) hx hb dX0_sumOfProjects_24 hl (k := 3) rfl (by rw [e_24]; rfl) (by decide) rfl (fun ls hl => ?_)
      clear e_24
      refine lv_goto (tgt := 4) hx hb dX0_sumOfProjects_27 (by decide) ?_
      exact ih _ _ _ x2_23 x3_24 h hI (lv_sub hl [2,3,1,0] rfl)
  unfold fX0_sumOfProjects at h
  refine lv_iconst (v := 0) hx hb dX0_sumOfProjects_0 rfl ?_
  refine lv_istore_n (lv' := [(2, .int 0), (0, .ref (a 0)), (1, .int p1)]) hx hb dX0_sumOfProjects_1 rfl hl (by decide) rfl (fun ls hl => ?_)
  refine lv_iconst (v := 0) hx hb dX0_sumOfProjects_2 rfl ?_
  refine lv_istore_n (lv' := [(3, .int 0), (2, .int 0), (0, .ref (a 0)), (1, .int p1)]) hx hb dX0_sumOfProjects_3 rfl hl (by decide) rfl (fun ls hl => ?_)
  exact l4 p1 bw_fu _ _ _ 0 0 h hI (lv_sub hl [2,3,1,0] rfl)
set_option maxHeartbeats 4000000 in
set_option maxRecDepth 100000 in
theorem mX0_delayOfTasks (l : Launch) (G : va_G) (cy : Nat → ClassId) (g : Nat) (a : Nat → Nat) (tp : bw_A1) (tk : bw_A1) (tl : bw_A1) (ts : bw_A1) (tq : bw_A1) (np : Int32) (nl : Int32) (r : Int32) (h : fX0_delayOfTasks tp tk np = some r) : bw_M l yX0_delayOfTasks cX0_delayOfTasks 5 (some .int) 1 23 G cy g [.ref (a 0)] (bw_dW cy a tp tk tl ts tq np nl) (some (.int r)) (bw_dW cy a tp tk tl ts tq np nl) := by
  refine bw_ofW (by decide +kernel) RX0 rfl (Nat.le_of_ble_eq_true rfl) ?_
  intro p e s m below meth c ls S hr hlocks hK hZ hI hl
  have hx := S.1
  have hb := S.2.1
  have hown := S.2.2.2.1
  have hts := S.2.2.2.2
  generalize va_A _ s.heap.size = A at hI hZ ⊢
  generalize hQ : MQ below _ _ s 0 0 A = Q
  have hl : lv_has ls 5 [(0, .ref (a 0))] := hl
  have l14 : ∀ (x2 : Int32) (k4 : Int32 → Int32 → Option Int32) (hk4 : ∀ (H : Heap) (locs : List Loc) (ls : Array Slot) (x1_ : Int32) (x2_ : Int32), k4 x1_ x2_ = some r → bw_I G A s.heap (bw_dW cy a tp tk tl ts tq np nl) H locs → lv_has ls 5 [(0, .ref (a 0)), (1, .int x1_), (2, .int x2_)] → W p l e (bw_rm 1 23) s m [.ref (a 0)].toArray below meth c H locs 0 0 Q (F0 m 4 ls [])) (n : Nat) (H : Heap) (locs : List Loc) (ls : Array Slot) (x1 : Int32) (x3 : Int32), lX0_delayOfTasks_14 k4 tp tk np x2 n x1 x3 = some r → bw_I G A s.heap (bw_dW cy a tp tk tl ts tq np nl) H locs → lv_has ls 5 [(0, .ref (a 0)), (1, .int x1), (2, .int x2), (3, .int x3)] → W p l e (bw_rm 1 23) s m [.ref (a 0)].toArray below meth c H locs 0 0 Q (F0 m 14 ls []) := by
    intro x2 k4 hk4 n
    induction n with
    | zero => intro H locs ls x1 x3 h; exact bw_none h
    | succ n ih =>
      intro H locs ls x1 x3 h hI hl
      have h : bX0_delayOfTasks_14 k4 (lX0_delayOfTasks_14 k4 tp tk np x2 n) tp tk np x2 x1 x3 = some r := h
      unfold bX0_delayOfTasks_14 at h
      refine lv_iload_n hx hb dX0_delayOfTasks_14 rfl (lv_at hl 3 rfl) ?_
      refine lv_aload_n hx hb dX0_delayOfTasks_15 rfl (lv_at hl 0 rfl) ?_
      refine bw_get S hK hI 0 0 rfl rfl (by decide) i_X0 f_X0_14 rfl dX0_delayOfTasks_16 ?_
      refine lv_iload_n hx hb dX0_delayOfTasks_19 rfl (lv_at hl 2 rfl) ?_
      refine lv_bipush (v := 8) hx hb dX0_delayOfTasks_20 (by decide) ?_
      obtain ⟨r22, hc, h⟩ := bw_b1_e h
      refine bw_callV S hK hZ hI (mX3_get l G cy g (a 1) (a 2) 84 14 tp x2 8 r22 hc) Y_X3_get V_X3_get l_X0_51 ⟨(Nat.le_of_ble_eq_true rfl), (Nat.le_of_ble_eq_true rfl)⟩ (q0 := 0) rfl rfl rfl (ws' := (bw_dW cy a tp tk tl ts tq np nl)) (bw_pd0 cy a tp tk tl ts tq np nl) (bw_pd0 cy a tp tk tl ts tq np nl).symm rfl rfl hl.1 (rest := [.int x3]) (st1 := [.int r22, .int x3]) rfl rfl (Nat.le_of_ble_eq_true rfl) dX0_delayOfTasks_22 ⟨(Nat.le_of_ble_eq_true rfl), (Nat.le_of_ble_eq_true rfl)⟩ (fun H locs hI => ?_)
      refine lv_icmp_ge (tgt := 69) hx hb dX0_delayOfTasks_25 (by decide) (fun c_25 => ?_) (fun c_25 => ?_)
      · rw [if_pos c_25] at h
        obtain ⟨x2_69, e_69⟩ : ∃ y : Int32, y = x2 + 1 := ⟨_, rfl⟩
        have h := bw_let_e h e_69
        refine lv_iinc (v := x2_69) (lv' := [(2, .int x2_69), (0, .ref (a 0)), (1, .int x1), (3, .int x3)]) hx hb dX0_delayOfTasks_69 hl (k := 2) rfl (by rw [e_69]; rfl) (by decide) rfl (fun ls hl => ?_)
        clear e_69
        refine lv_goto (tgt := 4) hx hb dX0_delayOfTasks_72 (by decide) ?_
        exact hk4 _ _ _ x1 x2_69 h hI (lv_sub hl [1,2,0] rfl)
      rw [if_neg c_25] at h
      refine lv_iload_n hx hb dX0_delayOfTasks_28 rfl (lv_at hl 2 rfl) ?_
      refine lv_iload_n hx hb dX0_delayOfTasks_29 rfl (lv_at hl 3 rfl) ?_
      obtain ⟨r30, hc, h⟩ := bw_b1_e h
      refine bw_callP S hK hZ hI (mX0_rowOfTask l G cy g x2 x3 r30 hc) Y_X0_rowOfTask V_X0_rowOfTask l_X0_62 ⟨(Nat.le_of_ble_eq_true rfl), (Nat.le_of_ble_eq_true rfl)⟩ (rest := []) (st1 := [.int r30]) rfl hl.1 rfl rfl (Nat.le_of_ble_eq_true rfl) dX0_delayOfTasks_30 ⟨(Nat.le_of_ble_eq_true rfl), (Nat.le_of_ble_eq_true rfl)⟩ (fun H locs hI => ?_)
      refine lv_istore (lv' := [(4, .int r30), (0, .ref (a 0)), (1, .int x1), (2, .int x2), (3, .int x3)]) hx hb dX0_delayOfTasks_33 hl (by decide) rfl (fun ls hl => ?_)
      refine lv_iload_n hx hb dX0_delayOfTasks_35 rfl (lv_at hl 2 rfl) ?_
      refine lv_iconst (v := 0) hx hb dX0_delayOfTasks_36 rfl ?_
      refine lv_aload_n hx hb dX0_delayOfTasks_37 rfl (lv_at hl 1 rfl) ?_
      refine bw_get S hK hI 0 1 rfl rfl (by decide) i_X0 f_X0_20 rfl dX0_delayOfTasks_38 ?_
      refine lv_iload hx hb dX0_delayOfTasks_41 (lv_at hl 0 rfl) ?_
      refine lv_iconst (v := 1) hx hb dX0_delayOfTasks_43 rfl ?_
      obtain ⟨r44, hc, h⟩ := bw_b1_e h
      refine bw_callV S hK hZ hI (mX3_get l G cy g (a 3) (a 4) 288 6 tk r30 1 r44 hc) Y_X3_get V_X3_get l_X0_51 ⟨(Nat.le_of_ble_eq_true rfl), (Nat.le_of_ble_eq_true rfl)⟩ (q0 := 0) rfl rfl rfl (ws' := (bw_dW cy a tp tk tl ts tq np nl)) (bw_pd1 cy a tp tk tl ts tq np nl) (bw_pd1 cy a tp tk tl ts tq np nl).symm rfl rfl hl.1 (rest := [.int 0, .int x1]) (st1 := [.int r44, .int 0, .int x1]) rfl rfl (Nat.le_of_ble_eq_true rfl) dX0_delayOfTasks_44 ⟨(Nat.le_of_ble_eq_true rfl), (Nat.le_of_ble_eq_true rfl)⟩ (fun H locs hI => ?_)
      refine lv_aload_n hx hb dX0_delayOfTasks_47 rfl (lv_at hl 1 rfl) ?_
      refine bw_get S hK hI 0 1 rfl rfl (by decide) i_X0 f_X0_20 rfl dX0_delayOfTasks_48 ?_
      refine lv_iload hx hb dX0_delayOfTasks_51 (lv_at hl 0 rfl) ?_
      refine lv_iconst (v := 0) hx hb dX0_delayOfTasks_53 rfl ?_
      obtain ⟨r54, hc, h⟩ := bw_b1_e h
      refine bw_callV S hK hZ hI (mX3_get l G cy g (a 3) (a 4) 288 6 tk r30 0 r54 hc) Y_X3_get V_X3_get l_X0_51 ⟨(Nat.le_of_ble_eq_true rfl), (Nat.le_of_ble_eq_true rfl)⟩ (q0 := 0) rfl rfl rfl (ws' := (bw_dW cy a tp tk tl ts tq np nl)) (bw_pd1 cy a tp tk tl ts tq np nl) (bw_pd1 cy a tp tk tl ts tq np nl).symm rfl rfl hl.1 (rest := [.int r44, .int 0, .int x1]) (st1 := [.int r54, .int r44, .int 0, .int x1]) rfl rfl (Nat.le_of_ble_eq_true rfl) dX0_delayOfTasks_54 ⟨(Nat.le_of_ble_eq_true rfl), (Nat.le_of_ble_eq_true rfl)⟩ (fun H locs hI => ?_)
      refine lv_isub hx hb dX0_delayOfTasks_57 ?_
      refine bw_mmax S (rest := [.int x1]) hl.1 l_X0_68 l_JM_max_s l_JM_i l_JM_max_c (Nat.le_of_ble_eq_true rfl) (Nat.le_of_ble_eq_true rfl) ⟨(Nat.le_of_ble_eq_true rfl), (Nat.le_of_ble_eq_true rfl)⟩ dX0_delayOfTasks_58 ?_
      refine lv_iadd hx hb dX0_delayOfTasks_61 ?_
      refine lv_topi (fun x1_62 e_62 => ?_)
      have h := bw_let_e h e_62
      clear e_62
      refine lv_istore_n (lv' := [(1, .int x1_62), (4, .int r30), (0, .ref (a 0)), (2, .int x2), (3, .int x3)]) hx hb dX0_delayOfTasks_62 rfl hl (by decide) rfl (fun ls hl => ?_)
      obtain ⟨x3_63, e_63⟩ : ∃ y : Int32, y = x3 + 1 := ⟨_, rfl⟩
      have h := bw_let_e h e_63
      refine lv_iinc (v := x3_63) (lv' := [(3, .int x3_63), (1, .int x1_62), (4, .int r30), (0, .ref (a 0)), (2, .int x2)]) hx hb dX0_delayOfTasks_63 hl (k := 4) rfl (by rw [e_63]; rfl) (by decide) rfl (fun ls hl => ?_)
      clear e_63
      refine lv_goto (tgt := 14) hx hb dX0_delayOfTasks_66 (by decide) ?_
      exact ih _ _ _ x1_62 x3_63 h hI (lv_sub hl [3,1,4,0] rfl)
  have l4 : ∀  (n : Nat) (H : Heap) (locs : List Loc) (ls : Array Slot) (x1 : Int32) (x2 : Int32), lX0_delayOfTasks_4 tp tk np n x1 x2 = some r → bw_I G A s.heap (bw_dW cy a tp tk tl ts tq np nl) H locs → lv_has ls 5 [(0, .ref (a 0)), (1, .int x1), (2, .int x2)] → W p l e (bw_rm 1 23) s m [.ref (a 0)].toArray below meth c H locs 0 0 Q (F0 m 4 ls []) := by
    intro  n
    induction n with
    | zero => intro H locs ls x1 x2 h; exact bw_none h
    | succ n ih =>
      intro H locs ls x1 x2 h hI hl
      have h : bX0_delayOfTasks_4  (lX0_delayOfTasks_4 tp tk np n) tp tk np x1 x2 = some r := h
      unfold bX0_delayOfTasks_4 at h
      refine lv_iload_n hx hb dX0_delayOfTasks_4 rfl (lv_at hl 2 rfl) ?_
      refine lv_aload_n hx hb dX0_delayOfTasks_5 rfl (lv_at hl 0 rfl) ?_
      refine bw_get S hK hI 0 5 rfl rfl (by decide) i_X0 f_X0_44 rfl dX0_delayOfTasks_6 ?_
      refine lv_icmp_ge (tgt := 75) hx hb dX0_delayOfTasks_9 (by decide) (fun c_9 => ?_) (fun c_9 => ?_)
      · rw [if_pos c_9] at h
        refine lv_iload_n hx hb dX0_delayOfTasks_75 rfl (lv_at hl 1 rfl) ?_
        exact bw_iretP S hr hlocks h hI rfl dX0_delayOfTasks_76 hQ
      rw [if_neg c_9] at h
      refine lv_iconst (v := 0) hx hb dX0_delayOfTasks_12 rfl ?_
      refine lv_istore_n (lv' := [(3, .int 0), (0, .ref (a 0)), (1, .int x1), (2, .int x2)]) hx hb dX0_delayOfTasks_13 rfl hl (by decide) rfl (fun ls hl => ?_)
      exact l14 x2 (lX0_delayOfTasks_4 tp tk np n) ih bw_fu _ _ _ x1 0 h hI (lv_sub hl [1,2,3,0] rfl)
  unfold fX0_delayOfTasks at h
  refine lv_iconst (v := 0) hx hb dX0_delayOfTasks_0 rfl ?_
  refine lv_istore_n (lv' := [(1, .int 0), (0, .ref (a 0))]) hx hb dX0_delayOfTasks_1 rfl hl (by decide) rfl (fun ls hl => ?_)
  refine lv_iconst (v := 0) hx hb dX0_delayOfTasks_2 rfl ?_
  refine lv_istore_n (lv' := [(2, .int 0), (1, .int 0), (0, .ref (a 0))]) hx hb dX0_delayOfTasks_3 rfl hl (by decide) rfl (fun ls hl => ?_)
  exact l4  bw_fu _ _ _ 0 0 h hI (lv_sub hl [2,1,0] rfl)
set_option maxHeartbeats 4000000 in
set_option maxRecDepth 100000 in
theorem mX0_valueOf (l : Launch) (G : va_G) (cy : Nat → ClassId) (g : Nat) (a : Nat → Nat) (tp : bw_A1) (tk : bw_A1) (tl : bw_A1) (ts : bw_A1) (tq : bw_A1) (np : Int32) (nl : Int32) (p1 : Int32) (r : Int32) (h : fX0_valueOf ts p1 = some r) : bw_M l yX0_valueOf cX0_valueOf 2 (some .int) 1 23 G cy g [.ref (a 0), .int p1] (bw_dW cy a tp tk tl ts tq np nl) (some (.int r)) (bw_dW cy a tp tk tl ts tq np nl) := by
  refine bw_ofW (by decide +kernel) RX0 rfl (Nat.le_of_ble_eq_true rfl) ?_
  intro p e s m below meth c ls S hr hlocks hK hZ hI hl
  have hx := S.1
  have hb := S.2.1
  have hown := S.2.2.2.1
  have hts := S.2.2.2.2
  generalize va_A _ s.heap.size = A at hI hZ ⊢
  generalize hQ : MQ below _ _ s 0 0 A = Q
  have hl : lv_has ls 2 [(0, .ref (a 0)), (1, .int p1)] := hl
  unfold fX0_valueOf at h
  refine lv_aload_n hx hb dX0_valueOf_0 rfl (lv_at hl 0 rfl) ?_
  refine bw_get S hK hI 0 3 rfl rfl (by decide) i_X0 f_X0_30 rfl dX0_valueOf_1 ?_
  refine lv_iconst (v := 0) hx hb dX0_valueOf_4 rfl ?_
  refine lv_iload_n hx hb dX0_valueOf_5 rfl (lv_at hl 1 rfl) ?_
  obtain ⟨r6, hc, h⟩ := bw_b1_e h
  refine bw_callV S hK hZ hI (mX3_get l G cy g (a 7) (a 8) 3 3 ts 0 p1 r6 hc) Y_X3_get V_X3_get l_X0_51 ⟨(Nat.le_of_ble_eq_true rfl), (Nat.le_of_ble_eq_true rfl)⟩ (q0 := 0) rfl rfl rfl (ws' := (bw_dW cy a tp tk tl ts tq np nl)) (bw_pd3 cy a tp tk tl ts tq np nl) (bw_pd3 cy a tp tk tl ts tq np nl).symm rfl rfl hl.1 (rest := []) (st1 := [.int r6]) rfl rfl (Nat.le_of_ble_eq_true rfl) dX0_valueOf_6 ⟨(Nat.le_of_ble_eq_true rfl), (Nat.le_of_ble_eq_true rfl)⟩ (fun H locs hI => ?_)
  exact bw_iretP S hr hlocks h hI rfl dX0_valueOf_9 hQ
set_option maxHeartbeats 4000000 in
set_option maxRecDepth 100000 in
theorem mX0_bearableDelay (l : Launch) (G : va_G) (cy : Nat → ClassId) (g : Nat) (a : Nat → Nat) (tp : bw_A1) (tk : bw_A1) (tl : bw_A1) (ts : bw_A1) (tq : bw_A1) (np : Int32) (nl : Int32) (p1 : Int32) (r : Int32) (h : fX0_bearableDelay tp tl ts np nl p1 = some r) : bw_M l yX0_bearableDelay cX0_bearableDelay 5 (some .int) 3 68 G cy g [.ref (a 0), .int p1] (bw_dW cy a tp tk tl ts tq np nl) (some (.int r)) (bw_dW cy a tp tk tl ts tq np nl) := by
  refine bw_ofW (by decide +kernel) RX0 rfl (Nat.le_of_ble_eq_true rfl) ?_
  intro p e s m below meth c ls S hr hlocks hK hZ hI hl
  have hx := S.1
  have hb := S.2.1
  have hown := S.2.2.2.1
  have hts := S.2.2.2.2
  generalize va_A _ s.heap.size = A at hI hZ ⊢
  generalize hQ : MQ below _ _ s 0 0 A = Q
  have hl : lv_has ls 5 [(0, .ref (a 0)), (1, .int p1)] := hl
  have j76 : ∀ (x1 : Int32) (x2 : Int32) (x3 : Int32) (k22 : Int32 → Int32 → Option Int32) (hk22 : ∀ (H : Heap) (locs : List Loc) (ls : Array Slot) (x2_ : Int32) (x3_ : Int32), k22 x2_ x3_ = some r → bw_I G A s.heap (bw_dW cy a tp tk tl ts tq np nl) H locs → lv_has ls 5 [(0, .ref (a 0)), (1, .int x1), (2, .int x2_), (3, .int x3_)] → W p l e (bw_rm 3 68) s m [.ref (a 0), .int p1].toArray below meth c H locs 0 0 Q (F0 m 22 ls [])) (H : Heap) (locs : List Loc) (ls : Array Slot), jX0_bearableDelay_76 k22 tp tl ts np nl x1 x2 x3 = some r → bw_I G A s.heap (bw_dW cy a tp tk tl ts tq np nl) H locs → lv_has ls 5 [(0, .ref (a 0)), (1, .int x1), (2, .int x2), (3, .int x3)] → W p l e (bw_rm 3 68) s m [.ref (a 0), .int p1].toArray below meth c H locs 0 0 Q (F0 m 76 ls []) := by
    intro x1 x2 x3 k22 hk22 H locs ls h hI hl
    unfold jX0_bearableDelay_76 at h
    obtain ⟨x3_76, e_76⟩ : ∃ y : Int32, y = x3 + 1 := ⟨_, rfl⟩
    have h := bw_let_e h e_76
    refine lv_iinc (v := x3_76) (lv' := [(3, .int x3_76), (0, .ref (a 0)), (1, .int x1), (2, .int x2)]) hx hb dX0_bearableDelay_76 hl (k := 3) rfl (by rw [e_76]; rfl) (by decide) rfl (fun ls hl => ?_)
    clear e_76
    refine lv_goto (tgt := 22) hx hb dX0_bearableDelay_79 (by decide) ?_
    exact hk22 _ _ _ x2 x3_76 h hI (lv_sub hl [1,2,3,0] rfl)
  have l22 : ∀ (x1 : Int32) (n : Nat) (H : Heap) (locs : List Loc) (ls : Array Slot) (x2 : Int32) (x3 : Int32), lX0_bearableDelay_22 tp tl ts np nl x1 n x2 x3 = some r → bw_I G A s.heap (bw_dW cy a tp tk tl ts tq np nl) H locs → lv_has ls 5 [(0, .ref (a 0)), (1, .int x1), (2, .int x2), (3, .int x3)] → W p l e (bw_rm 3 68) s m [.ref (a 0), .int p1].toArray below meth c H locs 0 0 Q (F0 m 22 ls []) := by
    intro x1 n
    induction n with
    | zero => intro H locs ls x2 x3 h; exact bw_none h
    | succ n ih =>
      intro H locs ls x2 x3 h hI hl
      have h : bX0_bearableDelay_22  (lX0_bearableDelay_22 tp tl ts np nl x1 n) tp tl ts np nl x1 x2 x3 = some r := h
      unfold bX0_bearableDelay_22 at h
      refine lv_iload_n hx hb dX0_bearableDelay_22 rfl (lv_at hl 3 rfl) ?_
      refine lv_aload_n hx hb dX0_bearableDelay_23 rfl (lv_at hl 0 rfl) ?_
      refine bw_get S hK hI 0 5 rfl rfl (by decide) i_X0 f_X0_44 rfl dX0_bearableDelay_24 ?_
      refine lv_icmp_ge (tgt := 82) hx hb dX0_bearableDelay_27 (by decide) (fun c_27 => ?_) (fun c_27 => ?_)
      · rw [if_pos c_27] at h
        refine lv_iload_n hx hb dX0_bearableDelay_82 rfl (lv_at hl 2 rfl) ?_
        exact bw_iretP S hr hlocks h hI rfl dX0_bearableDelay_83 hQ
      rw [if_neg c_27] at h
      refine lv_iload_n hx hb dX0_bearableDelay_30 rfl (lv_at hl 3 rfl) ?_
      refine lv_iload_n hx hb dX0_bearableDelay_31 rfl (lv_at hl 1 rfl) ?_
      refine lv_icmp_eq (tgt := 76) hx hb dX0_bearableDelay_32 (by decide) (fun c_32 => ?_) (fun c_32 => ?_)
      · rw [if_pos c_32] at h
        exact j76 x1 x2 x3 (lX0_bearableDelay_22 tp tl ts np nl x1 n) ih _ _ _ h hI (lv_sub hl [0,1,2,3] rfl)
      rw [if_neg c_32] at h
      refine lv_aload_n hx hb dX0_bearableDelay_35 rfl (lv_at hl 0 rfl) ?_
      refine lv_iload_n hx hb dX0_bearableDelay_36 rfl (lv_at hl 3 rfl) ?_
      obtain ⟨r37, hc, h⟩ := bw_b1_e h
      refine bw_callV S hK hZ hI (mX0_isOpen l G cy g a tp tk tl ts tq np nl x3 r37 hc) Y_X0_isOpen V_X0_isOpen l_X0_55 ⟨(Nat.le_of_ble_eq_true rfl), (Nat.le_of_ble_eq_true rfl)⟩ (q0 := 0) rfl rfl rfl (ws' := (bw_dW cy a tp tk tl ts tq np nl)) (bw_pS _) (bw_pS' _) rfl rfl hl.1 (rest := []) (st1 := [.int r37]) rfl rfl (Nat.le_of_ble_eq_true rfl) dX0_bearableDelay_37 ⟨(Nat.le_of_ble_eq_true rfl), (Nat.le_of_ble_eq_true rfl)⟩ (fun H locs hI => ?_)
      refine lv_if_eq (tgt := 76) hx hb dX0_bearableDelay_40 (by decide) (fun c_40 => ?_) (fun c_40 => ?_)
      · rw [if_pos c_40] at h
        exact j76 x1 x2 x3 (lX0_bearableDelay_22 tp tl ts np nl x1 n) ih _ _ _ h hI (lv_sub hl [0,1,2,3] rfl)
      rw [if_neg c_40] at h
      refine lv_aload_n hx hb dX0_bearableDelay_43 rfl (lv_at hl 0 rfl) ?_
      refine bw_get S hK hI 0 0 rfl rfl (by decide) i_X0 f_X0_14 rfl dX0_bearableDelay_44 ?_
      refine lv_iload_n hx hb dX0_bearableDelay_47 rfl (lv_at hl 3 rfl) ?_
      refine lv_iconst (v := 2) hx hb dX0_bearableDelay_48 rfl ?_
      obtain ⟨r49, hc, h⟩ := bw_b1_e h
      refine bw_callV S hK hZ hI (mX3_get l G cy g (a 1) (a 2) 84 14 tp x3 2 r49 hc) Y_X3_get V_X3_get l_X0_51 ⟨(Nat.le_of_ble_eq_true rfl), (Nat.le_of_ble_eq_true rfl)⟩ (q0 := 0) rfl rfl rfl (ws' := (bw_dW cy a tp tk tl ts tq np nl)) (bw_pd0 cy a tp tk tl ts tq np nl) (bw_pd0 cy a tp tk tl ts tq np nl).symm rfl rfl hl.1 (rest := []) (st1 := [.int r49]) rfl rfl (Nat.le_of_ble_eq_true rfl) dX0_bearableDelay_49 ⟨(Nat.le_of_ble_eq_true rfl), (Nat.le_of_ble_eq_true rfl)⟩ (fun H locs hI => ?_)
      refine lv_aload_n hx hb dX0_bearableDelay_52 rfl (lv_at hl 0 rfl) ?_
      refine lv_iload_n hx hb dX0_bearableDelay_53 rfl (lv_at hl 3 rfl) ?_
      refine lv_iload_n hx hb dX0_bearableDelay_54 rfl (lv_at hl 1 rfl) ?_
      obtain ⟨r55, hc, h⟩ := bw_b1_e h
      refine bw_callV S hK hZ hI (mX0_daysOwed l G cy g a tp tk tl ts tq np nl x3 x1 r55 hc) Y_X0_daysOwed V_X0_daysOwed l_X0_123 ⟨(Nat.le_of_ble_eq_true rfl), (Nat.le_of_ble_eq_true rfl)⟩ (q0 := 0) rfl rfl rfl (ws' := (bw_dW cy a tp tk tl ts tq np nl)) (bw_pS _) (bw_pS' _) rfl rfl hl.1 (rest := [.int r49]) (st1 := [.int r55, .int r49]) rfl rfl (Nat.le_of_ble_eq_true rfl) dX0_bearableDelay_55 ⟨(Nat.le_of_ble_eq_true rfl), (Nat.le_of_ble_eq_true rfl)⟩ (fun H locs hI => ?_)
      refine bw_mmin S (rest := []) hl.1 l_X0_79 l_JM_min_s l_JM_i l_JM_min_c (Nat.le_of_ble_eq_true rfl) (Nat.le_of_ble_eq_true rfl) ⟨(Nat.le_of_ble_eq_true rfl), (Nat.le_of_ble_eq_true rfl)⟩ dX0_bearableDelay_58 ?_
      refine lv_topi (fun x4_61 e_61 => ?_)
      have h := bw_let_e h e_61
      clear e_61
      refine lv_istore (lv' := [(4, .int x4_61), (0, .ref (a 0)), (1, .int x1), (2, .int x2), (3, .int x3)]) hx hb dX0_bearableDelay_61 hl (by decide) rfl (fun ls hl => ?_)
      refine lv_iload_n hx hb dX0_bearableDelay_63 rfl (lv_at hl 3 rfl) ?_
      refine lv_iload hx hb dX0_bearableDelay_64 (lv_at hl 0 rfl) ?_
      refine lv_aload_n hx hb dX0_bearableDelay_66 rfl (lv_at hl 1 rfl) ?_
      refine lv_iload_n hx hb dX0_bearableDelay_67 rfl (lv_at hl 4 rfl) ?_
      refine lv_iload hx hb dX0_bearableDelay_68 (lv_at hl 0 rfl) ?_
      obtain ⟨r70, hc, h⟩ := bw_b1_e h
      refine bw_callV S hK hZ hI (mX0_lendableDays l G cy g a tp tk tl ts tq np nl x3 x4_61 r70 hc) Y_X0_lendableDays V_X0_lendableDays l_X0_59 ⟨(Nat.le_of_ble_eq_true rfl), (Nat.le_of_ble_eq_true rfl)⟩ (q0 := 0) rfl rfl rfl (ws' := (bw_dW cy a tp tk tl ts tq np nl)) (bw_pS _) (bw_pS' _) rfl rfl hl.1 (rest := [.int x4_61, .int x2]) (st1 := [.int r70, .int x4_61, .int x2]) rfl rfl (Nat.le_of_ble_eq_true rfl) dX0_bearableDelay_70 ⟨(Nat.le_of_ble_eq_true rfl), (Nat.le_of_ble_eq_true rfl)⟩ (fun H locs hI => ?_)
      refine lv_iadd hx hb dX0_bearableDelay_73 ?_
      refine lv_iadd hx hb dX0_bearableDelay_74 ?_
      refine lv_topi (fun x2_75 e_75 => ?_)
      have h := bw_let_e h e_75
      clear e_75
      refine lv_istore_n (lv' := [(2, .int x2_75), (4, .int x4_61), (0, .ref (a 0)), (1, .int x1), (3, .int x3)]) hx hb dX0_bearableDelay_75 rfl hl (by decide) rfl (fun ls hl => ?_)
      exact j76 x1 x2_75 x3 (lX0_bearableDelay_22 tp tl ts np nl x1 n) ih _ _ _ h hI (lv_sub hl [2,3,0,4] rfl)
  unfold fX0_bearableDelay at h
  refine lv_aload_n hx hb dX0_bearableDelay_0 rfl (lv_at hl 0 rfl) ?_
  refine lv_iload_n hx hb dX0_bearableDelay_1 rfl (lv_at hl 1 rfl) ?_
  obtain ⟨r2, hc, h⟩ := bw_b1_e h
  refine bw_callV S hK hZ hI (mX0_isOpen l G cy g a tp tk tl ts tq np nl p1 r2 hc) Y_X0_isOpen V_X0_isOpen l_X0_55 ⟨(Nat.le_of_ble_eq_true rfl), (Nat.le_of_ble_eq_true rfl)⟩ (q0 := 0) rfl rfl rfl (ws' := (bw_dW cy a tp tk tl ts tq np nl)) (bw_pS _) (bw_pS' _) rfl rfl hl.1 (rest := []) (st1 := [.int r2]) rfl rfl (Nat.le_of_ble_eq_true rfl) dX0_bearableDelay_2 ⟨(Nat.le_of_ble_eq_true rfl), (Nat.le_of_ble_eq_true rfl)⟩ (fun H locs hI => ?_)
  refine lv_if_ne (tgt := 10) hx hb dX0_bearableDelay_5 (by decide) (fun c_5 => ?_) (fun c_5 => ?_)
  · rw [if_neg c_5] at h
    refine lv_aload_n hx hb dX0_bearableDelay_10 rfl (lv_at hl 0 rfl) ?_
    refine bw_get S hK hI 0 0 rfl rfl (by decide) i_X0 f_X0_14 rfl dX0_bearableDelay_11 ?_
    refine lv_iload_n hx hb dX0_bearableDelay_14 rfl (lv_at hl 1 rfl) ?_
    refine lv_iconst (v := 2) hx hb dX0_bearableDelay_15 rfl ?_
    obtain ⟨r16, hc, h⟩ := bw_b1_e h
    refine bw_callV S hK hZ hI (mX3_get l G cy g (a 1) (a 2) 84 14 tp p1 2 r16 hc) Y_X3_get V_X3_get l_X0_51 ⟨(Nat.le_of_ble_eq_true rfl), (Nat.le_of_ble_eq_true rfl)⟩ (q0 := 0) rfl rfl rfl (ws' := (bw_dW cy a tp tk tl ts tq np nl)) (bw_pd0 cy a tp tk tl ts tq np nl) (bw_pd0 cy a tp tk tl ts tq np nl).symm rfl rfl hl.1 (rest := []) (st1 := [.int r16]) rfl rfl (Nat.le_of_ble_eq_true rfl) dX0_bearableDelay_16 ⟨(Nat.le_of_ble_eq_true rfl), (Nat.le_of_ble_eq_true rfl)⟩ (fun H locs hI => ?_)
    refine lv_istore_n (lv' := [(2, .int r16), (0, .ref (a 0)), (1, .int p1)]) hx hb dX0_bearableDelay_19 rfl hl (by decide) rfl (fun ls hl => ?_)
    refine lv_iconst (v := 0) hx hb dX0_bearableDelay_20 rfl ?_
    refine lv_istore_n (lv' := [(3, .int 0), (2, .int r16), (0, .ref (a 0)), (1, .int p1)]) hx hb dX0_bearableDelay_21 rfl hl (by decide) rfl (fun ls hl => ?_)
    exact l22 p1 bw_fu _ _ _ r16 0 h hI (lv_sub hl [2,3,1,0] rfl)
  rw [if_pos c_5] at h
  refine lv_iconst (v := (-1)) hx hb dX0_bearableDelay_8 rfl ?_
  exact bw_iretP S hr hlocks h hI rfl dX0_bearableDelay_9 hQ
set_option maxHeartbeats 4000000 in
set_option maxRecDepth 100000 in
theorem mX0_weakestProject (l : Launch) (G : va_G) (cy : Nat → ClassId) (g : Nat) (a : Nat → Nat) (tp : bw_A1) (tk : bw_A1) (tl : bw_A1) (ts : bw_A1) (tq : bw_A1) (np : Int32) (nl : Int32) (r : Int32) (h : fX0_weakestProject tp tl ts np nl = some r) : bw_M l yX0_weakestProject cX0_weakestProject 5 (some .int) 4 92 G cy g [.ref (a 0)] (bw_dW cy a tp tk tl ts tq np nl) (some (.int r)) (bw_dW cy a tp tk tl ts tq np nl) := by
  refine bw_ofW (by decide +kernel) RX0 rfl (Nat.le_of_ble_eq_true rfl) ?_
  intro p e s m below meth c ls S hr hlocks hK hZ hI hl
  have hx := S.1
  have hb := S.2.1
  have hown := S.2.2.2.1
  have hts := S.2.2.2.2
  generalize va_A _ s.heap.size = A at hI hZ ⊢
  generalize hQ : MQ below _ _ s 0 0 A = Q
  have hl : lv_has ls 5 [(0, .ref (a 0))] := hl
  have j45 : ∀ (x1 : Int32) (x2 : Int32) (x3 : Int32) (k6 : Int32 → Int32 → Int32 → Option Int32) (hk6 : ∀ (H : Heap) (locs : List Loc) (ls : Array Slot) (x1_ : Int32) (x2_ : Int32) (x3_ : Int32), k6 x1_ x2_ x3_ = some r → bw_I G A s.heap (bw_dW cy a tp tk tl ts tq np nl) H locs → lv_has ls 5 [(0, .ref (a 0)), (1, .int x1_), (2, .int x2_), (3, .int x3_)] → W p l e (bw_rm 4 92) s m [.ref (a 0)].toArray below meth c H locs 0 0 Q (F0 m 6 ls [])) (H : Heap) (locs : List Loc) (ls : Array Slot), jX0_weakestProject_45 k6 tp tl ts np nl x1 x2 x3 = some r → bw_I G A s.heap (bw_dW cy a tp tk tl ts tq np nl) H locs → lv_has ls 5 [(0, .ref (a 0)), (1, .int x1), (2, .int x2), (3, .int x3)] → W p l e (bw_rm 4 92) s m [.ref (a 0)].toArray below meth c H locs 0 0 Q (F0 m 45 ls []) := by
    intro x1 x2 x3 k6 hk6 H locs ls h hI hl
    unfold jX0_weakestProject_45 at h
    obtain ⟨x3_45, e_45⟩ : ∃ y : Int32, y = x3 + 1 := ⟨_, rfl⟩
    have h := bw_let_e h e_45
    refine lv_iinc (v := x3_45) (lv' := [(3, .int x3_45), (0, .ref (a 0)), (1, .int x1), (2, .int x2)]) hx hb dX0_weakestProject_45 hl (k := 3) rfl (by rw [e_45]; rfl) (by decide) rfl (fun ls hl => ?_)
    clear e_45
    refine lv_goto (tgt := 6) hx hb dX0_weakestProject_48 (by decide) ?_
    exact hk6 _ _ _ x1 x2 x3_45 h hI (lv_sub hl [1,2,3,0] rfl)
  have j40 : ∀ (x3 : Int32) (x4 : Int32) (k6 : Int32 → Int32 → Int32 → Option Int32) (hk6 : ∀ (H : Heap) (locs : List Loc) (ls : Array Slot) (x1_ : Int32) (x2_ : Int32) (x3_ : Int32), k6 x1_ x2_ x3_ = some r → bw_I G A s.heap (bw_dW cy a tp tk tl ts tq np nl) H locs → lv_has ls 5 [(0, .ref (a 0)), (1, .int x1_), (2, .int x2_), (3, .int x3_)] → W p l e (bw_rm 4 92) s m [.ref (a 0)].toArray below meth c H locs 0 0 Q (F0 m 6 ls [])) (H : Heap) (locs : List Loc) (ls : Array Slot), jX0_weakestProject_40 k6 tp tl ts np nl x3 x4 = some r → bw_I G A s.heap (bw_dW cy a tp tk tl ts tq np nl) H locs → lv_has ls 5 [(0, .ref (a 0)), (3, .int x3), (4, .int x4)] → W p l e (bw_rm 4 92) s m [.ref (a 0)].toArray below meth c H locs 0 0 Q (F0 m 40 ls []) := by
    intro x3 x4 k6 hk6 H locs ls h hI hl
    unfold jX0_weakestProject_40 at h
    refine lv_iload_n hx hb dX0_weakestProject_40 rfl (lv_at hl 1 rfl) ?_
    refine lv_istore_n (lv' := [(1, .int x3), (0, .ref (a 0)), (3, .int x3), (4, .int x4)]) hx hb dX0_weakestProject_41 rfl hl (by decide) rfl (fun ls hl => ?_)
    refine lv_iload hx hb dX0_weakestProject_42 (lv_at hl 3 rfl) ?_
    refine lv_istore_n (lv' := [(2, .int x4), (1, .int x3), (0, .ref (a 0)), (3, .int x3), (4, .int x4)]) hx hb dX0_weakestProject_44 rfl hl (by decide) rfl (fun ls hl => ?_)
    exact j45 x3 x4 x3 k6 hk6 _ _ _ h hI (lv_sub hl [2,1,0,3] rfl)
  have l6 : ∀  (n : Nat) (H : Heap) (locs : List Loc) (ls : Array Slot) (x1 : Int32) (x2 : Int32) (x3 : Int32), lX0_weakestProject_6 tp tl ts np nl n x1 x2 x3 = some r → bw_I G A s.heap (bw_dW cy a tp tk tl ts tq np nl) H locs → lv_has ls 5 [(0, .ref (a 0)), (1, .int x1), (2, .int x2), (3, .int x3)] → W p l e (bw_rm 4 92) s m [.ref (a 0)].toArray below meth c H locs 0 0 Q (F0 m 6 ls []) := by
    intro  n
    induction n with
    | zero => intro H locs ls x1 x2 x3 h; exact bw_none h
    | succ n ih =>
      intro H locs ls x1 x2 x3 h hI hl
      have h : bX0_weakestProject_6  (lX0_weakestProject_6 tp tl ts np nl n) tp tl ts np nl x1 x2 x3 = some r := h
      unfold bX0_weakestProject_6 at h
      refine lv_iload_n hx hb dX0_weakestProject_6 rfl (lv_at hl 3 rfl) ?_
      refine lv_aload_n hx hb dX0_weakestProject_7 rfl (lv_at hl 0 rfl) ?_
      refine bw_get S hK hI 0 5 rfl rfl (by decide) i_X0 f_X0_44 rfl dX0_weakestProject_8 ?_
      refine lv_icmp_ge (tgt := 51) hx hb dX0_weakestProject_11 (by decide) (fun c_11 => ?_) (fun c_11 => ?_)
      · rw [if_pos c_11] at h
        refine lv_iload_n hx hb dX0_weakestProject_51 rfl (lv_at hl 1 rfl) ?_
        exact bw_iretP S hr hlocks h hI rfl dX0_weakestProject_52 hQ
      rw [if_neg c_11] at h
      refine lv_aload_n hx hb dX0_weakestProject_14 rfl (lv_at hl 0 rfl) ?_
      refine lv_iload_n hx hb dX0_weakestProject_15 rfl (lv_at hl 3 rfl) ?_
      obtain ⟨r16, hc, h⟩ := bw_b1_e h
      refine bw_callV S hK hZ hI (mX0_bearableDelay l G cy g a tp tk tl ts tq np nl x3 r16 hc) Y_X0_bearableDelay V_X0_bearableDelay l_X0_126 ⟨(Nat.le_of_ble_eq_true rfl), (Nat.le_of_ble_eq_true rfl)⟩ (q0 := 0) rfl rfl rfl (ws' := (bw_dW cy a tp tk tl ts tq np nl)) (bw_pS _) (bw_pS' _) rfl rfl hl.1 (rest := []) (st1 := [.int r16]) rfl rfl (Nat.le_of_ble_eq_true rfl) dX0_weakestProject_16 ⟨(Nat.le_of_ble_eq_true rfl), (Nat.le_of_ble_eq_true rfl)⟩ (fun H locs hI => ?_)
      refine lv_istore (lv' := [(4, .int r16), (0, .ref (a 0)), (1, .int x1), (2, .int x2), (3, .int x3)]) hx hb dX0_weakestProject_19 hl (by decide) rfl (fun ls hl => ?_)
      refine lv_aload_n hx hb dX0_weakestProject_21 rfl (lv_at hl 1 rfl) ?_
      refine lv_iload_n hx hb dX0_weakestProject_22 rfl (lv_at hl 4 rfl) ?_
      obtain ⟨r23, hc, h⟩ := bw_b1_e h
      refine bw_callV S hK hZ hI (mX0_isOpen l G cy g a tp tk tl ts tq np nl x3 r23 hc) Y_X0_isOpen V_X0_isOpen l_X0_55 ⟨(Nat.le_of_ble_eq_true rfl), (Nat.le_of_ble_eq_true rfl)⟩ (q0 := 0) rfl rfl rfl (ws' := (bw_dW cy a tp tk tl ts tq np nl)) (bw_pS _) (bw_pS' _) rfl rfl hl.1 (rest := []) (st1 := [.int r23]) rfl rfl (Nat.le_of_ble_eq_true rfl) dX0_weakestProject_23 ⟨(Nat.le_of_ble_eq_true rfl), (Nat.le_of_ble_eq_true rfl)⟩ (fun H locs hI => ?_)
      refine lv_if_eq (tgt := 45) hx hb dX0_weakestProject_26 (by decide) (fun c_26 => ?_) (fun c_26 => ?_)
      · rw [if_pos c_26] at h
        exact j45 x1 x2 x3 (lX0_weakestProject_6 tp tl ts np nl n) ih _ _ _ h hI (lv_sub hl [1,2,3,4] rfl)
      rw [if_neg c_26] at h
      refine lv_iload_n hx hb dX0_weakestProject_29 rfl (lv_at hl 2 rfl) ?_
      refine lv_iconst (v := (-1)) hx hb dX0_weakestProject_30 rfl ?_
      refine lv_icmp_eq (tgt := 40) hx hb dX0_weakestProject_31 (by decide) (fun c_31 => ?_) (fun c_31 => ?_)
      · rw [if_pos c_31] at h
        exact j40 x3 r16 (lX0_weakestProject_6 tp tl ts np nl n) ih _ _ _ h hI (lv_sub hl [1,4,0] rfl)
      rw [if_neg c_31] at h
      refine lv_iload hx hb dX0_weakestProject_34 (lv_at hl 0 rfl) ?_
      refine lv_iload_n hx hb dX0_weakestProject_36 rfl (lv_at hl 3 rfl) ?_
      refine lv_icmp_ge (tgt := 45) hx hb dX0_weakestProject_37 (by decide) (fun c_37 => ?_) (fun c_37 => ?_)
      · rw [if_pos c_37] at h
        exact j45 x1 x2 x3 (lX0_weakestProject_6 tp tl ts np nl n) ih _ _ _ h hI (lv_sub hl [1,2,3,4] rfl)
      rw [if_neg c_37] at h
      exact j40 x3 r16 (lX0_weakestProject_6 tp tl ts np nl n) ih _ _ _ h hI (lv_sub hl [1,4,0] rfl)
  unfold fX0_weakestProject at h
  refine lv_iconst (v := (-1)) hx hb dX0_weakestProject_0 rfl ?_
  refine lv_istore_n (lv' := [(1, .int (-1)), (0, .ref (a 0))]) hx hb dX0_weakestProject_1 rfl hl (by decide) rfl (fun ls hl => ?_)
  refine lv_iconst (v := (-1)) hx hb dX0_weakestProject_2 rfl ?_
  refine lv_istore_n (lv' := [(2, .int (-1)), (1, .int (-1)), (0, .ref (a 0))]) hx hb dX0_weakestProject_3 rfl hl (by decide) rfl (fun ls hl => ?_)
  refine lv_iconst (v := 0) hx hb dX0_weakestProject_4 rfl ?_
  refine lv_istore_n (lv' := [(3, .int 0), (2, .int (-1)), (1, .int (-1)), (0, .ref (a 0))]) hx hb dX0_weakestProject_5 rfl hl (by decide) rfl (fun ls hl => ?_)
  exact l6  bw_fu _ _ _ (-1) (-1) 0 h hI (lv_sub hl [3,2,1,0] rfl)
set_option maxHeartbeats 4000000 in
set_option maxRecDepth 100000 in
theorem mX0_leastDaysLeft (l : Launch) (G : va_G) (cy : Nat → ClassId) (g : Nat) (a : Nat → Nat) (tp : bw_A1) (tk : bw_A1) (tl : bw_A1) (ts : bw_A1) (tq : bw_A1) (np : Int32) (nl : Int32) (r : Int32) (h : fX0_leastDaysLeft tp np = some r) : bw_M l yX0_leastDaysLeft cX0_leastDaysLeft 4 (some .int) 2 44 G cy g [.ref (a 0)] (bw_dW cy a tp tk tl ts tq np nl) (some (.int r)) (bw_dW cy a tp tk tl ts tq np nl) := by
  refine bw_ofW (by decide +kernel) RX0 rfl (Nat.le_of_ble_eq_true rfl) ?_
  intro p e s m below meth c ls S hr hlocks hK hZ hI hl
  have hx := S.1
  have hb := S.2.1
  have hown := S.2.2.2.1
  have hts := S.2.2.2.2
  generalize va_A _ s.heap.size = A at hI hZ ⊢
  generalize hQ : MQ below _ _ s 0 0 A = Q
  have hl : lv_has ls 4 [(0, .ref (a 0))] := hl
  have j42 : ∀ (x1 : Int32) (x2 : Int32) (k4 : Int32 → Int32 → Option Int32) (hk4 : ∀ (H : Heap) (locs : List Loc) (ls : Array Slot) (x1_ : Int32) (x2_ : Int32), k4 x1_ x2_ = some r → bw_I G A s.heap (bw_dW cy a tp tk tl ts tq np nl) H locs → lv_has ls 4 [(0, .ref (a 0)), (1, .int x1_), (2, .int x2_)] → W p l e (bw_rm 2 44) s m [.ref (a 0)].toArray below meth c H locs 0 0 Q (F0 m 4 ls [])) (H : Heap) (locs : List Loc) (ls : Array Slot), jX0_leastDaysLeft_42 k4 tp np x1 x2 = some r → bw_I G A s.heap (bw_dW cy a tp tk tl ts tq np nl) H locs → lv_has ls 4 [(0, .ref (a 0)), (1, .int x1), (2, .int x2)] → W p l e (bw_rm 2 44) s m [.ref (a 0)].toArray below meth c H locs 0 0 Q (F0 m 42 ls []) := by
    intro x1 x2 k4 hk4 H locs ls h hI hl
    unfold jX0_leastDaysLeft_42 at h
    obtain ⟨x2_42, e_42⟩ : ∃ y : Int32, y = x2 + 1 := ⟨_, rfl⟩
    have h := bw_let_e h e_42
    refine lv_iinc (v := x2_42) (lv' := [(2, .int x2_42), (0, .ref (a 0)), (1, .int x1)]) hx hb dX0_leastDaysLeft_42 hl (k := 2) rfl (by rw [e_42]; rfl) (by decide) rfl (fun ls hl => ?_)
    clear e_42
    refine lv_goto (tgt := 4) hx hb dX0_leastDaysLeft_45 (by decide) ?_
    exact hk4 _ _ _ x1 x2_42 h hI (lv_sub hl [1,2,0] rfl)
  have j40 : ∀ (x2 : Int32) (x3 : Int32) (k4 : Int32 → Int32 → Option Int32) (hk4 : ∀ (H : Heap) (locs : List Loc) (ls : Array Slot) (x1_ : Int32) (x2_ : Int32), k4 x1_ x2_ = some r → bw_I G A s.heap (bw_dW cy a tp tk tl ts tq np nl) H locs → lv_has ls 4 [(0, .ref (a 0)), (1, .int x1_), (2, .int x2_)] → W p l e (bw_rm 2 44) s m [.ref (a 0)].toArray below meth c H locs 0 0 Q (F0 m 4 ls [])) (H : Heap) (locs : List Loc) (ls : Array Slot), jX0_leastDaysLeft_40 k4 tp np x2 x3 = some r → bw_I G A s.heap (bw_dW cy a tp tk tl ts tq np nl) H locs → lv_has ls 4 [(0, .ref (a 0)), (2, .int x2), (3, .int x3)] → W p l e (bw_rm 2 44) s m [.ref (a 0)].toArray below meth c H locs 0 0 Q (F0 m 40 ls []) := by
    intro x2 x3 k4 hk4 H locs ls h hI hl
    unfold jX0_leastDaysLeft_40 at h
    refine lv_iload_n hx hb dX0_leastDaysLeft_40 rfl (lv_at hl 2 rfl) ?_
    refine lv_istore_n (lv' := [(1, .int x3), (0, .ref (a 0)), (2, .int x2), (3, .int x3)]) hx hb dX0_leastDaysLeft_41 rfl hl (by decide) rfl (fun ls hl => ?_)
    exact j42 x3 x2 k4 hk4 _ _ _ h hI (lv_sub hl [1,0,2] rfl)
  have l4 : ∀  (n : Nat) (H : Heap) (locs : List Loc) (ls : Array Slot) (x1 : Int32) (x2 : Int32), lX0_leastDaysLeft_4 tp np n x1 x2 = some r → bw_I G A s.heap (bw_dW cy a tp tk tl ts tq np nl) H locs → lv_has ls 4 [(0, .ref (a 0)), (1, .int x1), (2, .int x2)] → W p l e (bw_rm 2 44) s m [.ref (a 0)].toArray below meth c H locs 0 0 Q (F0 m 4 ls []) := by
    intro  n
    induction n with
    | zero => intro H locs ls x1 x2 h; exact bw_none h
    | succ n ih =>
      intro H locs ls x1 x2 h hI hl
      have h : bX0_leastDaysLeft_4  (lX0_leastDaysLeft_4 tp np n) tp np x1 x2 = some r := h
      unfold bX0_leastDaysLeft_4 at h
      refine lv_iload_n hx hb dX0_leastDaysLeft_4 rfl (lv_at hl 2 rfl) ?_
      refine lv_aload_n hx hb dX0_leastDaysLeft_5 rfl (lv_at hl 0 rfl) ?_
      refine bw_get S hK hI 0 5 rfl rfl (by decide) i_X0 f_X0_44 rfl dX0_leastDaysLeft_6 ?_
      refine lv_icmp_ge (tgt := 48) hx hb dX0_leastDaysLeft_9 (by decide) (fun c_9 => ?_) (fun c_9 => ?_)
      · rw [if_pos c_9] at h
        refine lv_iload_n hx hb dX0_leastDaysLeft_48 rfl (lv_at hl 1 rfl) ?_
        exact bw_iretP S hr hlocks h hI rfl dX0_leastDaysLeft_49 hQ
      rw [if_neg c_9] at h
      refine lv_aload_n hx hb dX0_leastDaysLeft_12 rfl (lv_at hl 0 rfl) ?_
      refine bw_get S hK hI 0 0 rfl rfl (by decide) i_X0 f_X0_14 rfl dX0_leastDaysLeft_13 ?_
      refine lv_iload_n hx hb dX0_leastDaysLeft_16 rfl (lv_at hl 2 rfl) ?_
      refine lv_iconst (v := 2) hx hb dX0_leastDaysLeft_17 rfl ?_
      obtain ⟨r18, hc, h⟩ := bw_b1_e h
      refine bw_callV S hK hZ hI (mX3_get l G cy g (a 1) (a 2) 84 14 tp x2 2 r18 hc) Y_X3_get V_X3_get l_X0_51 ⟨(Nat.le_of_ble_eq_true rfl), (Nat.le_of_ble_eq_true rfl)⟩ (q0 := 0) rfl rfl rfl (ws' := (bw_dW cy a tp tk tl ts tq np nl)) (bw_pd0 cy a tp tk tl ts tq np nl) (bw_pd0 cy a tp tk tl ts tq np nl).symm rfl rfl hl.1 (rest := []) (st1 := [.int r18]) rfl rfl (Nat.le_of_ble_eq_true rfl) dX0_leastDaysLeft_18 ⟨(Nat.le_of_ble_eq_true rfl), (Nat.le_of_ble_eq_true rfl)⟩ (fun H locs hI => ?_)
      refine lv_istore_n (lv' := [(3, .int r18), (0, .ref (a 0)), (1, .int x1), (2, .int x2)]) hx hb dX0_leastDaysLeft_21 rfl hl (by decide) rfl (fun ls hl => ?_)
      refine lv_aload_n hx hb dX0_leastDaysLeft_22 rfl (lv_at hl 1 rfl) ?_
      refine lv_iload_n hx hb dX0_leastDaysLeft_23 rfl (lv_at hl 3 rfl) ?_
      obtain ⟨r24, hc, h⟩ := bw_b1_e h
      refine bw_callV S hK hZ hI (mX0_isOpen l G cy g a tp tk tl ts tq np nl x2 r24 hc) Y_X0_isOpen V_X0_isOpen l_X0_55 ⟨(Nat.le_of_ble_eq_true rfl), (Nat.le_of_ble_eq_true rfl)⟩ (q0 := 0) rfl rfl rfl (ws' := (bw_dW cy a tp tk tl ts tq np nl)) (bw_pS _) (bw_pS' _) rfl rfl hl.1 (rest := []) (st1 := [.int r24]) rfl rfl (Nat.le_of_ble_eq_true rfl) dX0_leastDaysLeft_24 ⟨(Nat.le_of_ble_eq_true rfl), (Nat.le_of_ble_eq_true rfl)⟩ (fun H locs hI => ?_)
      refine lv_if_eq (tgt := 42) hx hb dX0_leastDaysLeft_27 (by decide) (fun c_27 => ?_) (fun c_27 => ?_)
      · rw [if_pos c_27] at h
        exact j42 x1 x2 (lX0_leastDaysLeft_4 tp np n) ih _ _ _ h hI (lv_sub hl [1,2,3] rfl)
      rw [if_neg c_27] at h
      refine lv_iload_n hx hb dX0_leastDaysLeft_30 rfl (lv_at hl 2 rfl) ?_
      refine lv_iconst (v := (-1)) hx hb dX0_leastDaysLeft_31 rfl ?_
      refine lv_icmp_eq (tgt := 40) hx hb dX0_leastDaysLeft_32 (by decide) (fun c_32 => ?_) (fun c_32 => ?_)
      · rw [if_pos c_32] at h
        exact j40 x2 r18 (lX0_leastDaysLeft_4 tp np n) ih _ _ _ h hI (lv_sub hl [1,3,0] rfl)
      rw [if_neg c_32] at h
      refine lv_iload_n hx hb dX0_leastDaysLeft_35 rfl (lv_at hl 0 rfl) ?_
      refine lv_iload_n hx hb dX0_leastDaysLeft_36 rfl (lv_at hl 2 rfl) ?_
      refine lv_icmp_ge (tgt := 42) hx hb dX0_leastDaysLeft_37 (by decide) (fun c_37 => ?_) (fun c_37 => ?_)
      · rw [if_pos c_37] at h
        exact j42 x1 x2 (lX0_leastDaysLeft_4 tp np n) ih _ _ _ h hI (lv_sub hl [1,2,3] rfl)
      rw [if_neg c_37] at h
      exact j40 x2 r18 (lX0_leastDaysLeft_4 tp np n) ih _ _ _ h hI (lv_sub hl [1,3,0] rfl)
  unfold fX0_leastDaysLeft at h
  refine lv_iconst (v := (-1)) hx hb dX0_leastDaysLeft_0 rfl ?_
  refine lv_istore_n (lv' := [(1, .int (-1)), (0, .ref (a 0))]) hx hb dX0_leastDaysLeft_1 rfl hl (by decide) rfl (fun ls hl => ?_)
  refine lv_iconst (v := 0) hx hb dX0_leastDaysLeft_2 rfl ?_
  refine lv_istore_n (lv' := [(2, .int 0), (1, .int (-1)), (0, .ref (a 0))]) hx hb dX0_leastDaysLeft_3 rfl hl (by decide) rfl (fun ls hl => ?_)
  exact l4  bw_fu _ _ _ (-1) 0 h hI (lv_sub hl [2,1,0] rfl)
