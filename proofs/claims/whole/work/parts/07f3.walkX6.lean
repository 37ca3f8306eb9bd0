set_option maxHeartbeats 4000000 in
set_option maxRecDepth 100000 in
theorem mX6_isRank (l : Launch) (G : va_G) (cy : Nat → ClassId) (g : Nat) (p0 : Int32) (r : Int32) (h : fX6_isRank p0 = some r) : bw_M l yX6_isRank cX6_isRank 1 (some .boolean) 1 22 G cy g [.int p0] [] (some (.int r)) [] := by
  refine bw_ofW (by decide +kernel) RX6 rfl (Nat.le_of_ble_eq_true rfl) ?_
  intro p e s m below meth c ls S hr hlocks hK hZ hI hl
  have hx := S.1
  have hb := S.2.1
  have hown := S.2.2.2.1
  have hts := S.2.2.2.2
  generalize va_A _ s.heap.size = A at hI hZ ⊢
  generalize hQ : MQ below _ _ s 0 0 A = Q
  have hl : lv_has ls 1 [(0, .int p0)] := hl
  unfold fX6_isRank at h
  refine lv_iload_n hx hb dX6_isRank_0 rfl (lv_at hl 0 rfl) ?_
  refine lv_iconst (v := 1) hx hb dX6_isRank_1 rfl ?_
  refine lv_bipush (v := 9) hx hb dX6_isRank_2 (by decide) ?_
  obtain ⟨r4, hc, h⟩ := bw_b1_e h
  refine bw_callP S hK hZ hI (mX6_in l G cy g p0 1 9 r4 hc) Y_X6_in V_X6_in l_X6_35 ⟨(Nat.le_of_ble_eq_true rfl), (Nat.le_of_ble_eq_true rfl)⟩ (rest := []) (st1 := [.int r4]) rfl hl.1 rfl rfl (Nat.le_of_ble_eq_true rfl) dX6_isRank_4 ⟨(Nat.le_of_ble_eq_true rfl), (Nat.le_of_ble_eq_true rfl)⟩ (fun H locs hI => ?_)
  obtain ⟨h9, h⟩ := bw_bool_e h
  exact bw_iretP S hr hlocks h hI h9 dX6_isRank_7 hQ
set_option maxHeartbeats 4000000 in
set_option maxRecDepth 100000 in
theorem mX6_open (l : Launch) (G : va_G) (cy : Nat → ClassId) (g : Nat) (a : Nat → Nat) (z : bw_A1) (rows : bw_A1) (asd : bw_A1) (sm : Int32) (buf : bw_A1) (bm : Int32) (th : Int32) (od : bw_A1) (om : Int32) (ow : Int32) (ca : Int32) (bo : Int32) (la : Int32) (pl : Int32) (to : Int32) (rd : bw_A1) (hh : Int64) (p1 : Int32) (p2 : Int32) (r : Int32) (z' : bw_A1) (rows' : bw_A1) (sm' : Int32) (th' : Int32) (h : fX6_open z rows sm th p1 p2 = some (r, z', rows', sm', th')) : bw_M l yX6_open cX6_open 3 (some .int) 2 44 G cy g [.ref (a 0), .int p1, .int p2] (bw_mW cy a z rows asd sm buf bm th od om ow ca bo la pl to rd hh) (some (.int r)) (bw_mW cy a z' rows' asd sm' buf bm th' od om ow ca bo la pl to rd hh) := by
  refine bw_ofW (by decide +kernel) RX6 rfl (Nat.le_of_ble_eq_true rfl) ?_
  intro p e s m below meth c ls S hr hlocks hK hZ hI hl
  have hx := S.1
  have hb := S.2.1
  have hown := S.2.2.2.1
  have hts := S.2.2.2.2
  generalize va_A _ s.heap.size = A at hI hZ ⊢
  generalize hQ : MQ below _ _ s 0 0 A = Q
  have hl : lv_has ls 3 [(0, .ref (a 0)), (1, .int p1), (2, .int p2)] := hl
  have j22 : ∀ (z : bw_A1) (rows : bw_A1) (sm : Int32) (th : Int32) (H : Heap) (locs : List Loc) (ls : Array Slot), jX6_open_22 z rows sm th = some (r, z', rows', sm', th') → bw_I G A s.heap (bw_mW cy a z rows asd sm buf bm th od om ow ca bo la pl to rd hh) H locs → lv_has ls 3 [(0, .ref (a 0))] → W p l e (bw_rm 2 44) s m [.ref (a 0), .int p1, .int p2].toArray below meth c H locs 0 0 Q (F0 m 22 ls []) := by
    intro z rows sm th H locs ls h hI hl
    unfold jX6_open_22 at h
    refine lv_aload_n hx hb dX6_open_22 rfl (lv_at hl 0 rfl) ?_
    refine lv_iconst (v := 1) hx hb dX6_open_23 rfl ?_
    obtain ⟨r24, th_24, hc, h⟩ := bw_b2_e h
    refine bw_callV S hK hZ hI (mX6_fails l G cy g a z rows asd sm buf bm th od om ow ca bo la pl to rd hh 1 r24 th_24 hc) Y_X6_fails V_X6_fails l_X6_114 ⟨(Nat.le_of_ble_eq_true rfl), (Nat.le_of_ble_eq_true rfl)⟩ (q0 := 0) rfl rfl rfl (ws' := (bw_mW cy a z rows asd sm buf bm th_24 od om ow ca bo la pl to rd hh)) (bw_pS _) (bw_pS' _) rfl rfl hl.1 (rest := []) (st1 := [.int r24]) rfl rfl (Nat.le_of_ble_eq_true rfl) dX6_open_24 ⟨(Nat.le_of_ble_eq_true rfl), (Nat.le_of_ble_eq_true rfl)⟩ (fun H locs hI => ?_)
    exact bw_iret (d := (z, rows, sm, th_24)) (rr := (r, z', rows', sm', th')) S hr hlocks h (fun q : (bw_A1 × bw_A1 × Int32 × Int32) => (bw_mW cy a q.1 q.2.1 asd q.2.2.1 buf bm q.2.2.2 od om ow ca bo la pl to rd hh)) hI rfl dX6_open_27 hQ
  unfold fX6_open at h
  refine lv_aload_n hx hb dX6_open_0 rfl (lv_at hl 0 rfl) ?_
  refine lv_iconst (v := 0) hx hb dX6_open_1 rfl ?_
  refine bw_put S hK hI 0 6 (ws' := (bw_mW cy a z rows asd sm buf bm 0 od om ow ca bo la pl to rd hh)) tyX6 tyX6_ok nmX6 rfl rfl (by decide) i_X6 f_X6_28 rfl rfl rfl rfl (Nat.le_of_ble_eq_true rfl) rfl dX6_open_2 (fun H locs hI => ?_)
  refine lv_iload_n hx hb dX6_open_5 rfl (lv_at hl 1 rfl) ?_
  obtain ⟨r6, hc, h⟩ := bw_b1_e h
  refine bw_callP S hK hZ hI (mX6_isRank l G cy g p1 r6 hc) Y_X6_isRank V_X6_isRank l_X6_111 ⟨(Nat.le_of_ble_eq_true rfl), (Nat.le_of_ble_eq_true rfl)⟩ (rest := []) (st1 := [.int r6]) rfl hl.1 rfl rfl (Nat.le_of_ble_eq_true rfl) dX6_open_6 ⟨(Nat.le_of_ble_eq_true rfl), (Nat.le_of_ble_eq_true rfl)⟩ (fun H locs hI => ?_)
  refine lv_if_eq (tgt := 22) hx hb dX6_open_9 (by decide) (fun c_9 => ?_) (fun c_9 => ?_)
  · rw [if_pos c_9] at h
    exact j22 z rows sm 0 _ _ _ h hI (lv_sub hl [0] rfl)
  rw [if_neg c_9] at h
  refine lv_iload_n hx hb dX6_open_12 rfl (lv_at hl 2 rfl) ?_
  refine lv_iconst (v := 0) hx hb dX6_open_13 rfl ?_
  refine lv_bipush (v := 99) hx hb dX6_open_14 (by decide) ?_
  obtain ⟨r16, hc, h⟩ := bw_b1_e h
  refine bw_callP S hK hZ hI (mX6_in l G cy g p2 0 99 r16 hc) Y_X6_in V_X6_in l_X6_35 ⟨(Nat.le_of_ble_eq_true rfl), (Nat.le_of_ble_eq_true rfl)⟩ (rest := []) (st1 := [.int r16]) rfl hl.1 rfl rfl (Nat.le_of_ble_eq_true rfl) dX6_open_16 ⟨(Nat.le_of_ble_eq_true rfl), (Nat.le_of_ble_eq_true rfl)⟩ (fun H locs hI => ?_)
  refine lv_if_ne (tgt := 28) hx hb dX6_open_19 (by decide) (fun c_19 => ?_) (fun c_19 => ?_)
  · rw [if_neg c_19] at h
    refine lv_aload_n hx hb dX6_open_28 rfl (lv_at hl 0 rfl) ?_
    refine bw_get S hK hI 0 0 rfl rfl (by decide) i_X6 f_X6_7 rfl dX6_open_29 ?_
    refine lv_iconst (v := 0) hx hb dX6_open_32 rfl ?_
    obtain ⟨v33, hv, h⟩ := bw_b1_e h
    refine bw_iald hx hb hK hI 1 hv rfl dX6_open_33 ?_
    refine lv_bipush (v := 6) hx hb dX6_open_34 (by decide) ?_
    refine lv_icmp_ne (tgt := 45) hx hb dX6_open_36 (by decide) (fun c_36 => ?_) (fun c_36 => ?_)
    · rw [if_neg c_36] at h
      refine lv_aload_n hx hb dX6_open_45 rfl (lv_at hl 0 rfl) ?_
      obtain ⟨rows_46, sm_46, hc, h⟩ := bw_b2_e h
      refine bw_callV S hK hZ hI (mX6_save l G cy g a z rows asd sm buf bm 0 od om ow ca bo la pl to rd hh rows_46 sm_46 hc) Y_X6_save V_X6_save l_X6_117 ⟨(Nat.le_of_ble_eq_true rfl), (Nat.le_of_ble_eq_true rfl)⟩ (q0 := 0) rfl rfl rfl (ws' := (bw_mW cy a z rows_46 asd sm_46 buf bm 0 od om ow ca bo la pl to rd hh)) (bw_pS _) (bw_pS' _) rfl rfl hl.1 (rest := []) (st1 := []) rfl rfl (Nat.le_of_ble_eq_true rfl) dX6_open_46 ⟨(Nat.le_of_ble_eq_true rfl), (Nat.le_of_ble_eq_true rfl)⟩ (fun H locs hI => ?_)
      refine lv_aload_n hx hb dX6_open_49 rfl (lv_at hl 0 rfl) ?_
      refine lv_iload_n hx hb dX6_open_50 rfl (lv_at hl 1 rfl) ?_
      refine lv_iload_n hx hb dX6_open_51 rfl (lv_at hl 2 rfl) ?_
      obtain ⟨z_52, hc, h⟩ := bw_b1_e h
      refine bw_callV S hK hZ hI (mX6_openNow l G cy g a z rows_46 asd sm_46 buf bm 0 od om ow ca bo la pl to rd hh p1 p2 z_52 hc) Y_X6_openNow V_X6_openNow l_X6_120 ⟨(Nat.le_of_ble_eq_true rfl), (Nat.le_of_ble_eq_true rfl)⟩ (q0 := 0) rfl rfl rfl (ws' := (bw_mW cy a z_52 rows_46 asd sm_46 buf bm 0 od om ow ca bo la pl to rd hh)) (bw_pS _) (bw_pS' _) rfl rfl hl.1 (rest := []) (st1 := []) rfl rfl (Nat.le_of_ble_eq_true rfl) dX6_open_52 ⟨(Nat.le_of_ble_eq_true rfl), (Nat.le_of_ble_eq_true rfl)⟩ (fun H locs hI => ?_)
      refine lv_aload_n hx hb dX6_open_55 rfl (lv_at hl 0 rfl) ?_
      refine bw_get S hK hI 0 0 rfl rfl (by decide) i_X6 f_X6_7 rfl dX6_open_56 ?_
      refine lv_iconst (v := 0) hx hb dX6_open_59 rfl ?_
      obtain ⟨v60, hv, h⟩ := bw_b1_e h
      refine bw_iald hx hb hK hI 1 hv rfl dX6_open_60 ?_
      refine lv_iconst (v := 1) hx hb dX6_open_61 rfl ?_
      refine lv_isub hx hb dX6_open_62 ?_
      exact bw_iret (d := (z_52, rows_46, sm_46, 0)) (rr := (r, z', rows', sm', th')) S hr hlocks h (fun q : (bw_A1 × bw_A1 × Int32 × Int32) => (bw_mW cy a q.1 q.2.1 asd q.2.2.1 buf bm q.2.2.2 od om ow ca bo la pl to rd hh)) hI rfl dX6_open_63 hQ
    rw [if_pos c_36] at h
    refine lv_aload_n hx hb dX6_open_39 rfl (lv_at hl 0 rfl) ?_
    refine lv_iconst (v := 2) hx hb dX6_open_40 rfl ?_
    obtain ⟨r41, th_41, hc, h⟩ := bw_b2_e h
    refine bw_callV S hK hZ hI (mX6_fails l G cy g a z rows asd sm buf bm 0 od om ow ca bo la pl to rd hh 2 r41 th_41 hc) Y_X6_fails V_X6_fails l_X6_114 ⟨(Nat.le_of_ble_eq_true rfl), (Nat.le_of_ble_eq_true rfl)⟩ (q0 := 0) rfl rfl rfl (ws' := (bw_mW cy a z rows asd sm buf bm th_41 od om ow ca bo la pl to rd hh)) (bw_pS _) (bw_pS' _) rfl rfl hl.1 (rest := []) (st1 := [.int r41]) rfl rfl (Nat.le_of_ble_eq_true rfl) dX6_open_41 ⟨(Nat.le_of_ble_eq_true rfl), (Nat.le_of_ble_eq_true rfl)⟩ (fun H locs hI => ?_)
    exact bw_iret (d := (z, rows, sm, th_41)) (rr := (r, z', rows', sm', th')) S hr hlocks h (fun q : (bw_A1 × bw_A1 × Int32 × Int32) => (bw_mW cy a q.1 q.2.1 asd q.2.2.1 buf bm q.2.2.2 od om ow ca bo la pl to rd hh)) hI rfl dX6_open_44 hQ
  rw [if_pos c_19] at h
  exact j22 z rows sm 0 _ _ _ h hI (lv_sub hl [0] rfl)
set_option maxHeartbeats 4000000 in
set_option maxRecDepth 100000 in
theorem mX6_planNow (l : Launch) (G : va_G) (cy : Nat → ClassId) (g : Nat) (a : Nat → Nat) (z : bw_A1) (rows : bw_A1) (asd : bw_A1) (sm : Int32) (buf : bw_A1) (bm : Int32) (th : Int32) (od : bw_A1) (om : Int32) (ow : Int32) (ca : Int32) (bo : Int32) (la : Int32) (pl : Int32) (to : Int32) (rd : bw_A1) (hh : Int64) (p1 : Int32) (p2 : Int32) (z' : bw_A1) (h : fX6_planNow z p1 p2 = some z') : bw_M l yX6_planNow cX6_planNow 4 none 1 20 G cy g [.ref (a 0), .int p1, .int p2] (bw_mW cy a z rows asd sm buf bm th od om ow ca bo la pl to rd hh) none (bw_mW cy a z' rows asd sm buf bm th od om ow ca bo la pl to rd hh) := by
  refine bw_ofW (by decide +kernel) RX6 rfl (Nat.le_of_ble_eq_true rfl) ?_
  intro p e s m below meth c ls S hr hlocks hK hZ hI hl
  have hx := S.1
  have hb := S.2.1
  have hown := S.2.2.2.1
  have hts := S.2.2.2.2
  generalize va_A _ s.heap.size = A at hI hZ ⊢
  generalize hQ : MQ below _ _ s 0 0 A = Q
  have hl : lv_has ls 4 [(0, .ref (a 0)), (1, .int p1), (2, .int p2)] := hl
  unfold fX6_planNow at h
  refine lv_iload_n hx hb dX6_planNow_0 rfl (lv_at hl 1 rfl) ?_
  obtain ⟨r1, hc, h⟩ := bw_b1_e h
  refine bw_callP S hK hZ hI (mX6_at l G cy g p1 r1 hc) Y_X6_at V_X6_at l_X6_39 ⟨(Nat.le_of_ble_eq_true rfl), (Nat.le_of_ble_eq_true rfl)⟩ (rest := []) (st1 := [.int r1]) rfl hl.1 rfl rfl (Nat.le_of_ble_eq_true rfl) dX6_planNow_1 ⟨(Nat.le_of_ble_eq_true rfl), (Nat.le_of_ble_eq_true rfl)⟩ (fun H locs hI => ?_)
  refine lv_istore_n (lv' := [(3, .int r1), (0, .ref (a 0)), (1, .int p1), (2, .int p2)]) hx hb dX6_planNow_4 rfl hl (by decide) rfl (fun ls hl => ?_)
  refine lv_aload_n hx hb dX6_planNow_5 rfl (lv_at hl 1 rfl) ?_
  refine bw_get S hK hI 0 0 rfl rfl (by decide) i_X6 f_X6_7 rfl dX6_planNow_6 ?_
  refine lv_iload_n hx hb dX6_planNow_9 rfl (lv_at hl 0 rfl) ?_
  refine lv_bipush (v := 10) hx hb dX6_planNow_10 (by decide) ?_
  refine lv_iadd hx hb dX6_planNow_12 ?_
  refine lv_aload_n hx hb dX6_planNow_13 rfl (lv_at hl 1 rfl) ?_
  refine bw_get S hK hI 0 0 rfl rfl (by decide) i_X6 f_X6_7 rfl dX6_planNow_14 ?_
  refine lv_iload_n hx hb dX6_planNow_17 rfl (lv_at hl 0 rfl) ?_
  refine lv_iconst (v := 5) hx hb dX6_planNow_18 rfl ?_
  refine lv_iadd hx hb dX6_planNow_19 ?_
  obtain ⟨v20, hv, h⟩ := bw_b1_e h
  refine bw_iald hx hb hK hI 1 hv rfl dX6_planNow_20 ?_
  refine lv_iadd hx hb dX6_planNow_21 ?_
  refine lv_iload_n hx hb dX6_planNow_22 rfl (lv_at hl 3 rfl) ?_
  obtain ⟨z_23, hv, h⟩ := bw_b1_e h
  refine bw_iast hx hb hK hI 1 (ws' := (bw_mW cy a z_23 rows asd sm buf bm th od om ow ca bo la pl to rd hh)) hv rfl rfl dX6_planNow_23 (fun H locs hI => ?_)
  refine lv_aload_n hx hb dX6_planNow_24 rfl (lv_at hl 1 rfl) ?_
  refine bw_get S hK hI 0 0 rfl rfl (by decide) i_X6 f_X6_7 rfl dX6_planNow_25 ?_
  refine lv_iload_n hx hb dX6_planNow_28 rfl (lv_at hl 0 rfl) ?_
  refine lv_bipush (v := 18) hx hb dX6_planNow_29 (by decide) ?_
  refine lv_iadd hx hb dX6_planNow_31 ?_
  refine lv_aload_n hx hb dX6_planNow_32 rfl (lv_at hl 1 rfl) ?_
  refine bw_get S hK hI 0 0 rfl rfl (by decide) i_X6 f_X6_7 rfl dX6_planNow_33 ?_
  refine lv_iload_n hx hb dX6_planNow_36 rfl (lv_at hl 0 rfl) ?_
  refine lv_iconst (v := 5) hx hb dX6_planNow_37 rfl ?_
  refine lv_iadd hx hb dX6_planNow_38 ?_
  obtain ⟨v39, hv, h⟩ := bw_b1_e h
  refine bw_iald hx hb hK hI 1 hv rfl dX6_planNow_39 ?_
  refine lv_iadd hx hb dX6_planNow_40 ?_
  refine lv_iconst (v := (-1)) hx hb dX6_planNow_41 rfl ?_
  obtain ⟨z_42, hv, h⟩ := bw_b1_e h
  refine bw_iast hx hb hK hI 1 (ws' := (bw_mW cy a z_42 rows asd sm buf bm th od om ow ca bo la pl to rd hh)) hv rfl rfl dX6_planNow_42 (fun H locs hI => ?_)
  refine lv_aload_n hx hb dX6_planNow_43 rfl (lv_at hl 1 rfl) ?_
  refine bw_get S hK hI 0 0 rfl rfl (by decide) i_X6 f_X6_7 rfl dX6_planNow_44 ?_
  refine lv_iload_n hx hb dX6_planNow_47 rfl (lv_at hl 0 rfl) ?_
  refine lv_iconst (v := 5) hx hb dX6_planNow_48 rfl ?_
  refine lv_iadd hx hb dX6_planNow_49 ?_
  refine lv_dup2_11 hx hb dX6_planNow_50 rfl rfl ?_
  obtain ⟨v51, hv, h⟩ := bw_b1_e h
  refine bw_iald hx hb hK hI 1 hv rfl dX6_planNow_51 ?_
  refine lv_iconst (v := 1) hx hb dX6_planNow_52 rfl ?_
  refine lv_iadd hx hb dX6_planNow_53 ?_
  obtain ⟨z_54, hv, h⟩ := bw_b1_e h
  refine bw_iast hx hb hK hI 1 (ws' := (bw_mW cy a z_54 rows asd sm buf bm th od om ow ca bo la pl to rd hh)) hv rfl rfl dX6_planNow_54 (fun H locs hI => ?_)
  exact bw_vret (d := z_54) (rr := z') S hr hlocks h (fun q : bw_A1 => (bw_mW cy a q rows asd sm buf bm th od om ow ca bo la pl to rd hh)) hI dX6_planNow_55 hQ
set_option maxHeartbeats 4000000 in
set_option maxRecDepth 100000 in
theorem mX6_plan (l : Launch) (G : va_G) (cy : Nat → ClassId) (g : Nat) (a : Nat → Nat) (z : bw_A1) (rows : bw_A1) (asd : bw_A1) (sm : Int32) (buf : bw_A1) (bm : Int32) (th : Int32) (od : bw_A1) (om : Int32) (ow : Int32) (ca : Int32) (bo : Int32) (la : Int32) (pl : Int32) (to : Int32) (rd : bw_A1) (hh : Int64) (p1 : Int32) (p2 : Int32) (r : Int32) (z' : bw_A1) (rows' : bw_A1) (sm' : Int32) (th' : Int32) (h : fX6_plan z rows sm th p1 p2 = some (r, z', rows', sm', th')) : bw_M l yX6_plan cX6_plan 3 (some .int) 2 43 G cy g [.ref (a 0), .int p1, .int p2] (bw_mW cy a z rows asd sm buf bm th od om ow ca bo la pl to rd hh) (some (.int r)) (bw_mW cy a z' rows' asd sm' buf bm th' od om ow ca bo la pl to rd hh) := by
  refine bw_ofW (by decide +kernel) RX6 rfl (Nat.le_of_ble_eq_true rfl) ?_
  intro p e s m below meth c ls S hr hlocks hK hZ hI hl
  have hx := S.1
  have hb := S.2.1
  have hown := S.2.2.2.1
  have hts := S.2.2.2.2
  generalize va_A _ s.heap.size = A at hI hZ ⊢
  generalize hQ : MQ below _ _ s 0 0 A = Q
  have hl : lv_has ls 3 [(0, .ref (a 0)), (1, .int p1), (2, .int p2)] := hl
  have j59 : ∀ (z : bw_A1) (rows : bw_A1) (sm : Int32) (th : Int32) (H : Heap) (locs : List Loc) (ls : Array Slot), jX6_plan_59 z rows sm th = some (r, z', rows', sm', th') → bw_I G A s.heap (bw_mW cy a z rows asd sm buf bm th od om ow ca bo la pl to rd hh) H locs → lv_has ls 3 [(0, .ref (a 0))] → W p l e (bw_rm 2 43) s m [.ref (a 0), .int p1, .int p2].toArray below meth c H locs 0 0 Q (F0 m 59 ls []) := by
    intro z rows sm th H locs ls h hI hl
    unfold jX6_plan_59 at h
    refine lv_aload_n hx hb dX6_plan_59 rfl (lv_at hl 0 rfl) ?_
    refine lv_iconst (v := 3) hx hb dX6_plan_60 rfl ?_
    obtain ⟨r61, th_61, hc, h⟩ := bw_b2_e h
    refine bw_callV S hK hZ hI (mX6_fails l G cy g a z rows asd sm buf bm th od om ow ca bo la pl to rd hh 3 r61 th_61 hc) Y_X6_fails V_X6_fails l_X6_114 ⟨(Nat.le_of_ble_eq_true rfl), (Nat.le_of_ble_eq_true rfl)⟩ (q0 := 0) rfl rfl rfl (ws' := (bw_mW cy a z rows asd sm buf bm th_61 od om ow ca bo la pl to rd hh)) (bw_pS _) (bw_pS' _) rfl rfl hl.1 (rest := []) (st1 := [.int r61]) rfl rfl (Nat.le_of_ble_eq_true rfl) dX6_plan_61 ⟨(Nat.le_of_ble_eq_true rfl), (Nat.le_of_ble_eq_true rfl)⟩ (fun H locs hI => ?_)
    exact bw_iret (d := (z, rows, sm, th_61)) (rr := (r, z', rows', sm', th')) S hr hlocks h (fun q : (bw_A1 × bw_A1 × Int32 × Int32) => (bw_mW cy a q.1 q.2.1 asd q.2.2.1 buf bm q.2.2.2 od om ow ca bo la pl to rd hh)) hI rfl dX6_plan_64 hQ
  unfold fX6_plan at h
  refine lv_aload_n hx hb dX6_plan_0 rfl (lv_at hl 0 rfl) ?_
  refine lv_iconst (v := 0) hx hb dX6_plan_1 rfl ?_
  refine bw_put S hK hI 0 6 (ws' := (bw_mW cy a z rows asd sm buf bm 0 od om ow ca bo la pl to rd hh)) tyX6 tyX6_ok nmX6 rfl rfl (by decide) i_X6 f_X6_28 rfl rfl rfl rfl (Nat.le_of_ble_eq_true rfl) rfl dX6_plan_2 (fun H locs hI => ?_)
  refine lv_aload_n hx hb dX6_plan_5 rfl (lv_at hl 0 rfl) ?_
  refine lv_iload_n hx hb dX6_plan_6 rfl (lv_at hl 1 rfl) ?_
  obtain ⟨r7, hc, h⟩ := bw_b1_e h
  refine bw_callV S hK hZ hI (mX6_isProject l G cy g a z rows asd sm buf bm 0 od om ow ca bo la pl to rd hh p1 r7 hc) Y_X6_isProject V_X6_isProject l_X6_123 ⟨(Nat.le_of_ble_eq_true rfl), (Nat.le_of_ble_eq_true rfl)⟩ (q0 := 0) rfl rfl rfl (ws' := (bw_mW cy a z rows asd sm buf bm 0 od om ow ca bo la pl to rd hh)) (bw_pS _) (bw_pS' _) rfl rfl hl.1 (rest := []) (st1 := [.int r7]) rfl rfl (Nat.le_of_ble_eq_true rfl) dX6_plan_7 ⟨(Nat.le_of_ble_eq_true rfl), (Nat.le_of_ble_eq_true rfl)⟩ (fun H locs hI => ?_)
  refine lv_if_ne (tgt := 19) hx hb dX6_plan_10 (by decide) (fun c_10 => ?_) (fun c_10 => ?_)
  · rw [if_neg c_10] at h
    refine lv_iload_n hx hb dX6_plan_19 rfl (lv_at hl 2 rfl) ?_
    refine lv_iconst (v := 1) hx hb dX6_plan_20 rfl ?_
    refine lv_bipush (v := 60) hx hb dX6_plan_21 (by decide) ?_
    obtain ⟨r23, hc, h⟩ := bw_b1_e h
    refine bw_callP S hK hZ hI (mX6_in l G cy g p2 1 60 r23 hc) Y_X6_in V_X6_in l_X6_35 ⟨(Nat.le_of_ble_eq_true rfl), (Nat.le_of_ble_eq_true rfl)⟩ (rest := []) (st1 := [.int r23]) rfl hl.1 rfl rfl (Nat.le_of_ble_eq_true rfl) dX6_plan_23 ⟨(Nat.le_of_ble_eq_true rfl), (Nat.le_of_ble_eq_true rfl)⟩ (fun H locs hI => ?_)
    refine lv_if_ne (tgt := 35) hx hb dX6_plan_26 (by decide) (fun c_26 => ?_) (fun c_26 => ?_)
    · rw [if_neg c_26] at h
      refine lv_aload_n hx hb dX6_plan_35 rfl (lv_at hl 0 rfl) ?_
      refine lv_iload_n hx hb dX6_plan_36 rfl (lv_at hl 1 rfl) ?_
      obtain ⟨r37, hc, h⟩ := bw_b1_e h
      refine bw_callV S hK hZ hI (mX6_isOpen l G cy g a z rows asd sm buf bm 0 od om ow ca bo la pl to rd hh p1 r37 hc) Y_X6_isOpen V_X6_isOpen l_X6_43 ⟨(Nat.le_of_ble_eq_true rfl), (Nat.le_of_ble_eq_true rfl)⟩ (q0 := 0) rfl rfl rfl (ws' := (bw_mW cy a z rows asd sm buf bm 0 od om ow ca bo la pl to rd hh)) (bw_pS _) (bw_pS' _) rfl rfl hl.1 (rest := []) (st1 := [.int r37]) rfl rfl (Nat.le_of_ble_eq_true rfl) dX6_plan_37 ⟨(Nat.le_of_ble_eq_true rfl), (Nat.le_of_ble_eq_true rfl)⟩ (fun H locs hI => ?_)
      refine lv_if_eq (tgt := 59) hx hb dX6_plan_40 (by decide) (fun c_40 => ?_) (fun c_40 => ?_)
      · rw [if_pos c_40] at h
        exact j59 z rows sm 0 _ _ _ h hI (lv_sub hl [0] rfl)
      rw [if_neg c_40] at h
      refine lv_aload_n hx hb dX6_plan_43 rfl (lv_at hl 0 rfl) ?_
      refine bw_get S hK hI 0 0 rfl rfl (by decide) i_X6 f_X6_7 rfl dX6_plan_44 ?_
      refine lv_iload_n hx hb dX6_plan_47 rfl (lv_at hl 1 rfl) ?_
      obtain ⟨r48, hc, h⟩ := bw_b1_e h
      refine bw_callP S hK hZ hI (mX6_at l G cy g p1 r48 hc) Y_X6_at V_X6_at l_X6_39 ⟨(Nat.le_of_ble_eq_true rfl), (Nat.le_of_ble_eq_true rfl)⟩ (rest := [.ref (a 1)]) (st1 := [.int r48, .ref (a 1)]) rfl hl.1 rfl rfl (Nat.le_of_ble_eq_true rfl) dX6_plan_48 ⟨(Nat.le_of_ble_eq_true rfl), (Nat.le_of_ble_eq_true rfl)⟩ (fun H locs hI => ?_)
      refine lv_iconst (v := 5) hx hb dX6_plan_51 rfl ?_
      refine lv_iadd hx hb dX6_plan_52 ?_
      obtain ⟨v53, hv, h⟩ := bw_b1_e h
      refine bw_iald hx hb hK hI 1 hv rfl dX6_plan_53 ?_
      refine lv_bipush (v := 8) hx hb dX6_plan_54 (by decide) ?_
      refine lv_icmp_ne (tgt := 65) hx hb dX6_plan_56 (by decide) (fun c_56 => ?_) (fun c_56 => ?_)
      · rw [if_neg c_56] at h
        refine lv_aload_n hx hb dX6_plan_65 rfl (lv_at hl 0 rfl) ?_
        obtain ⟨rows_66, sm_66, hc, h⟩ := bw_b2_e h
        refine bw_callV S hK hZ hI (mX6_save l G cy g a z rows asd sm buf bm 0 od om ow ca bo la pl to rd hh rows_66 sm_66 hc) Y_X6_save V_X6_save l_X6_117 ⟨(Nat.le_of_ble_eq_true rfl), (Nat.le_of_ble_eq_true rfl)⟩ (q0 := 0) rfl rfl rfl (ws' := (bw_mW cy a z rows_66 asd sm_66 buf bm 0 od om ow ca bo la pl to rd hh)) (bw_pS _) (bw_pS' _) rfl rfl hl.1 (rest := []) (st1 := []) rfl rfl (Nat.le_of_ble_eq_true rfl) dX6_plan_66 ⟨(Nat.le_of_ble_eq_true rfl), (Nat.le_of_ble_eq_true rfl)⟩ (fun H locs hI => ?_)
        refine lv_aload_n hx hb dX6_plan_69 rfl (lv_at hl 0 rfl) ?_
        refine lv_iload_n hx hb dX6_plan_70 rfl (lv_at hl 1 rfl) ?_
        refine lv_iload_n hx hb dX6_plan_71 rfl (lv_at hl 2 rfl) ?_
        obtain ⟨z_72, hc, h⟩ := bw_b1_e h
        refine bw_callV S hK hZ hI (mX6_planNow l G cy g a z rows_66 asd sm_66 buf bm 0 od om ow ca bo la pl to rd hh p1 p2 z_72 hc) Y_X6_planNow V_X6_planNow l_X6_126 ⟨(Nat.le_of_ble_eq_true rfl), (Nat.le_of_ble_eq_true rfl)⟩ (q0 := 0) rfl rfl rfl (ws' := (bw_mW cy a z_72 rows_66 asd sm_66 buf bm 0 od om ow ca bo la pl to rd hh)) (bw_pS _) (bw_pS' _) rfl rfl hl.1 (rest := []) (st1 := []) rfl rfl (Nat.le_of_ble_eq_true rfl) dX6_plan_72 ⟨(Nat.le_of_ble_eq_true rfl), (Nat.le_of_ble_eq_true rfl)⟩ (fun H locs hI => ?_)
        refine lv_aload_n hx hb dX6_plan_75 rfl (lv_at hl 0 rfl) ?_
        refine bw_get S hK hI 0 0 rfl rfl (by decide) i_X6 f_X6_7 rfl dX6_plan_76 ?_
        refine lv_iload_n hx hb dX6_plan_79 rfl (lv_at hl 1 rfl) ?_
        obtain ⟨r80, hc, h⟩ := bw_b1_e h
        refine bw_callP S hK hZ hI (mX6_at l G cy g p1 r80 hc) Y_X6_at V_X6_at l_X6_39 ⟨(Nat.le_of_ble_eq_true rfl), (Nat.le_of_ble_eq_true rfl)⟩ (rest := [.ref (a 1)]) (st1 := [.int r80, .ref (a 1)]) rfl hl.1 rfl rfl (Nat.le_of_ble_eq_true rfl) dX6_plan_80 ⟨(Nat.le_of_ble_eq_true rfl), (Nat.le_of_ble_eq_true rfl)⟩ (fun H locs hI => ?_)
        refine lv_iconst (v := 5) hx hb dX6_plan_83 rfl ?_
        refine lv_iadd hx hb dX6_plan_84 ?_
        obtain ⟨v85, hv, h⟩ := bw_b1_e h
        refine bw_iald hx hb hK hI 1 hv rfl dX6_plan_85 ?_
        refine lv_iconst (v := 1) hx hb dX6_plan_86 rfl ?_
        refine lv_isub hx hb dX6_plan_87 ?_
        exact bw_iret (d := (z_72, rows_66, sm_66, 0)) (rr := (r, z', rows', sm', th')) S hr hlocks h (fun q : (bw_A1 × bw_A1 × Int32 × Int32) => (bw_mW cy a q.1 q.2.1 asd q.2.2.1 buf bm q.2.2.2 od om ow ca bo la pl to rd hh)) hI rfl dX6_plan_88 hQ
      rw [if_pos c_56] at h
      exact j59 z rows sm 0 _ _ _ h hI (lv_sub hl [0] rfl)
    rw [if_pos c_26] at h
    refine lv_aload_n hx hb dX6_plan_29 rfl (lv_at hl 0 rfl) ?_
    refine lv_iconst (v := 2) hx hb dX6_plan_30 rfl ?_
    obtain ⟨r31, th_31, hc, h⟩ := bw_b2_e h
    refine bw_callV S hK hZ hI (mX6_fails l G cy g a z rows asd sm buf bm 0 od om ow ca bo la pl to rd hh 2 r31 th_31 hc) Y_X6_fails V_X6_fails l_X6_114 ⟨(Nat.le_of_ble_eq_true rfl), (Nat.le_of_ble_eq_true rfl)⟩ (q0 := 0) rfl rfl rfl (ws' := (bw_mW cy a z rows asd sm buf bm th_31 od om ow ca bo la pl to rd hh)) (bw_pS _) (bw_pS' _) rfl rfl hl.1 (rest := []) (st1 := [.int r31]) rfl rfl (Nat.le_of_ble_eq_true rfl) dX6_plan_31 ⟨(Nat.le_of_ble_eq_true rfl), (Nat.le_of_ble_eq_true rfl)⟩ (fun H locs hI => ?_)
    exact bw_iret (d := (z, rows, sm, th_31)) (rr := (r, z', rows', sm', th')) S hr hlocks h (fun q : (bw_A1 × bw_A1 × Int32 × Int32) => (bw_mW cy a q.1 q.2.1 asd q.2.2.1 buf bm q.2.2.2 od om ow ca bo la pl to rd hh)) hI rfl dX6_plan_34 hQ
  rw [if_pos c_10] at h
  refine lv_aload_n hx hb dX6_plan_13 rfl (lv_at hl 0 rfl) ?_
  refine lv_iconst (v := 1) hx hb dX6_plan_14 rfl ?_
  obtain ⟨r15, th_15, hc, h⟩ := bw_b2_e h
  refine bw_callV S hK hZ hI (mX6_fails l G cy g a z rows asd sm buf bm 0 od om ow ca bo la pl to rd hh 1 r15 th_15 hc) Y_X6_fails V_X6_fails l_X6_114 ⟨(Nat.le_of_ble_eq_true rfl), (Nat.le_of_ble_eq_true rfl)⟩ (q0 := 0) rfl rfl rfl (ws' := (bw_mW cy a z rows asd sm buf bm th_15 od om ow ca bo la pl to rd hh)) (bw_pS _) (bw_pS' _) rfl rfl hl.1 (rest := []) (st1 := [.int r15]) rfl rfl (Nat.le_of_ble_eq_true rfl) dX6_plan_15 ⟨(Nat.le_of_ble_eq_true rfl), (Nat.le_of_ble_eq_true rfl)⟩ (fun H locs hI => ?_)
  exact bw_iret (d := (z, rows, sm, th_15)) (rr := (r, z', rows', sm', th')) S hr hlocks h (fun q : (bw_A1 × bw_A1 × Int32 × Int32) => (bw_mW cy a q.1 q.2.1 asd q.2.2.1 buf bm q.2.2.2 od om ow ca bo la pl to rd hh)) hI rfl dX6_plan_18 hQ
set_option maxHeartbeats 4000000 in
set_option maxRecDepth 100000 in
theorem mX6_rank (l : Launch) (G : va_G) (cy : Nat → ClassId) (g : Nat) (a : Nat → Nat) (z : bw_A1) (rows : bw_A1) (asd : bw_A1) (sm : Int32) (buf : bw_A1) (bm : Int32) (th : Int32) (od : bw_A1) (om : Int32) (ow : Int32) (ca : Int32) (bo : Int32) (la : Int32) (pl : Int32) (to : Int32) (rd : bw_A1) (hh : Int64) (p1 : Int32) (p2 : Int32) (r : Int32) (z' : bw_A1) (rows' : bw_A1) (sm' : Int32) (th' : Int32) (h : fX6_rank z rows sm th p1 p2 = some (r, z', rows', sm', th')) : bw_M l yX6_rank cX6_rank 4 (some .int) 2 43 G cy g [.ref (a 0), .int p1, .int p2] (bw_mW cy a z rows asd sm buf bm th od om ow ca bo la pl to rd hh) (some (.int r)) (bw_mW cy a z' rows' asd sm' buf bm th' od om ow ca bo la pl to rd hh) := by
  refine bw_ofW (by decide +kernel) RX6 rfl (Nat.le_of_ble_eq_true rfl) ?_
  intro p e s m below meth c ls S hr hlocks hK hZ hI hl
  have hx := S.1
  have hb := S.2.1
  have hown := S.2.2.2.1
  have hts := S.2.2.2.2
  generalize va_A _ s.heap.size = A at hI hZ ⊢
  generalize hQ : MQ below _ _ s 0 0 A = Q
  have hl : lv_has ls 4 [(0, .ref (a 0)), (1, .int p1), (2, .int p2)] := hl
  unfold fX6_rank at h
  refine lv_aload_n hx hb dX6_rank_0 rfl (lv_at hl 0 rfl) ?_
  refine lv_iconst (v := 0) hx hb dX6_rank_1 rfl ?_
  refine bw_put S hK hI 0 6 (ws' := (bw_mW cy a z rows asd sm buf bm 0 od om ow ca bo la pl to rd hh)) tyX6 tyX6_ok nmX6 rfl rfl (by decide) i_X6 f_X6_28 rfl rfl rfl rfl (Nat.le_of_ble_eq_true rfl) rfl dX6_rank_2 (fun H locs hI => ?_)
  refine lv_aload_n hx hb dX6_rank_5 rfl (lv_at hl 0 rfl) ?_
  refine lv_iload_n hx hb dX6_rank_6 rfl (lv_at hl 1 rfl) ?_
  obtain ⟨r7, hc, h⟩ := bw_b1_e h
  refine bw_callV S hK hZ hI (mX6_isProject l G cy g a z rows asd sm buf bm 0 od om ow ca bo la pl to rd hh p1 r7 hc) Y_X6_isProject V_X6_isProject l_X6_123 ⟨(Nat.le_of_ble_eq_true rfl), (Nat.le_of_ble_eq_true rfl)⟩ (q0 := 0) rfl rfl rfl (ws' := (bw_mW cy a z rows asd sm buf bm 0 od om ow ca bo la pl to rd hh)) (bw_pS _) (bw_pS' _) rfl rfl hl.1 (rest := []) (st1 := [.int r7]) rfl rfl (Nat.le_of_ble_eq_true rfl) dX6_rank_7 ⟨(Nat.le_of_ble_eq_true rfl), (Nat.le_of_ble_eq_true rfl)⟩ (fun H locs hI => ?_)
  refine lv_if_ne (tgt := 19) hx hb dX6_rank_10 (by decide) (fun c_10 => ?_) (fun c_10 => ?_)
  · rw [if_neg c_10] at h
    refine lv_iload_n hx hb dX6_rank_19 rfl (lv_at hl 2 rfl) ?_
    obtain ⟨r20, hc, h⟩ := bw_b1_e h
    refine bw_callP S hK hZ hI (mX6_isRank l G cy g p2 r20 hc) Y_X6_isRank V_X6_isRank l_X6_111 ⟨(Nat.le_of_ble_eq_true rfl), (Nat.le_of_ble_eq_true rfl)⟩ (rest := []) (st1 := [.int r20]) rfl hl.1 rfl rfl (Nat.le_of_ble_eq_true rfl) dX6_rank_20 ⟨(Nat.le_of_ble_eq_true rfl), (Nat.le_of_ble_eq_true rfl)⟩ (fun H locs hI => ?_)
    refine lv_if_ne (tgt := 32) hx hb dX6_rank_23 (by decide) (fun c_23 => ?_) (fun c_23 => ?_)
    · rw [if_neg c_23] at h
      refine lv_aload_n hx hb dX6_rank_32 rfl (lv_at hl 0 rfl) ?_
      obtain ⟨rows_33, sm_33, hc, h⟩ := bw_b2_e h
      refine bw_callV S hK hZ hI (mX6_save l G cy g a z rows asd sm buf bm 0 od om ow ca bo la pl to rd hh rows_33 sm_33 hc) Y_X6_save V_X6_save l_X6_117 ⟨(Nat.le_of_ble_eq_true rfl), (Nat.le_of_ble_eq_true rfl)⟩ (q0 := 0) rfl rfl rfl (ws' := (bw_mW cy a z rows_33 asd sm_33 buf bm 0 od om ow ca bo la pl to rd hh)) (bw_pS _) (bw_pS' _) rfl rfl hl.1 (rest := []) (st1 := []) rfl rfl (Nat.le_of_ble_eq_true rfl) dX6_rank_33 ⟨(Nat.le_of_ble_eq_true rfl), (Nat.le_of_ble_eq_true rfl)⟩ (fun H locs hI => ?_)
      refine lv_aload_n hx hb dX6_rank_36 rfl (lv_at hl 0 rfl) ?_
      refine bw_get S hK hI 0 0 rfl rfl (by decide) i_X6 f_X6_7 rfl dX6_rank_37 ?_
      refine lv_iload_n hx hb dX6_rank_40 rfl (lv_at hl 1 rfl) ?_
      obtain ⟨r41, hc, h⟩ := bw_b1_e h
      refine bw_callP S hK hZ hI (mX6_at l G cy g p1 r41 hc) Y_X6_at V_X6_at l_X6_39 ⟨(Nat.le_of_ble_eq_true rfl), (Nat.le_of_ble_eq_true rfl)⟩ (rest := [.ref (a 1)]) (st1 := [.int r41, .ref (a 1)]) rfl hl.1 rfl rfl (Nat.le_of_ble_eq_true rfl) dX6_rank_41 ⟨(Nat.le_of_ble_eq_true rfl), (Nat.le_of_ble_eq_true rfl)⟩ (fun H locs hI => ?_)
      obtain ⟨v44, hv, h⟩ := bw_b1_e h
      refine bw_iald hx hb hK hI 1 hv rfl dX6_rank_44 ?_
      refine lv_istore_n (lv' := [(3, .int v44), (0, .ref (a 0)), (1, .int p1), (2, .int p2)]) hx hb dX6_rank_45 rfl hl (by decide) rfl (fun ls hl => ?_)
      refine lv_aload_n hx hb dX6_rank_46 rfl (lv_at hl 1 rfl) ?_
      refine bw_get S hK hI 0 0 rfl rfl (by decide) i_X6 f_X6_7 rfl dX6_rank_47 ?_
      refine lv_iload_n hx hb dX6_rank_50 rfl (lv_at hl 2 rfl) ?_
      obtain ⟨r51, hc, h⟩ := bw_b1_e h
      refine bw_callP S hK hZ hI (mX6_at l G cy g p1 r51 hc) Y_X6_at V_X6_at l_X6_39 ⟨(Nat.le_of_ble_eq_true rfl), (Nat.le_of_ble_eq_true rfl)⟩ (rest := [.ref (a 1)]) (st1 := [.int r51, .ref (a 1)]) rfl hl.1 rfl rfl (Nat.le_of_ble_eq_true rfl) dX6_rank_51 ⟨(Nat.le_of_ble_eq_true rfl), (Nat.le_of_ble_eq_true rfl)⟩ (fun H locs hI => ?_)
      refine lv_iload_n hx hb dX6_rank_54 rfl (lv_at hl 3 rfl) ?_
      obtain ⟨z_55, hv, h⟩ := bw_b1_e h
      refine bw_iast hx hb hK hI 1 (ws' := (bw_mW cy a z_55 rows_33 asd sm_33 buf bm 0 od om ow ca bo la pl to rd hh)) hv rfl rfl dX6_rank_55 (fun H locs hI => ?_)
      refine lv_iload_n hx hb dX6_rank_56 rfl (lv_at hl 0 rfl) ?_
      exact bw_iret (d := (z_55, rows_33, sm_33, 0)) (rr := (r, z', rows', sm', th')) S hr hlocks h (fun q : (bw_A1 × bw_A1 × Int32 × Int32) => (bw_mW cy a q.1 q.2.1 asd q.2.2.1 buf bm q.2.2.2 od om ow ca bo la pl to rd hh)) hI rfl dX6_rank_57 hQ
    rw [if_pos c_23] at h
    refine lv_aload_n hx hb dX6_rank_26 rfl (lv_at hl 0 rfl) ?_
    refine lv_iconst (v := 2) hx hb dX6_rank_27 rfl ?_
    obtain ⟨r28, th_28, hc, h⟩ := bw_b2_e h
    refine bw_callV S hK hZ hI (mX6_fails l G cy g a z rows asd sm buf bm 0 od om ow ca bo la pl to rd hh 2 r28 th_28 hc) Y_X6_fails V_X6_fails l_X6_114 ⟨(Nat.le_of_ble_eq_true rfl), (Nat.le_of_ble_eq_true rfl)⟩ (q0 := 0) rfl rfl rfl (ws' := (bw_mW cy a z rows asd sm buf bm th_28 od om ow ca bo la pl to rd hh)) (bw_pS _) (bw_pS' _) rfl rfl hl.1 (rest := []) (st1 := [.int r28]) rfl rfl (Nat.le_of_ble_eq_true rfl) dX6_rank_28 ⟨(Nat.le_of_ble_eq_true rfl), (Nat.le_of_ble_eq_true rfl)⟩ (fun H locs hI => ?_)
    exact bw_iret (d := (z, rows, sm, th_28)) (rr := (r, z', rows', sm', th')) S hr hlocks h (fun q : (bw_A1 × bw_A1 × Int32 × Int32) => (bw_mW cy a q.1 q.2.1 asd q.2.2.1 buf bm q.2.2.2 od om ow ca bo la pl to rd hh)) hI rfl dX6_rank_31 hQ
  rw [if_pos c_10] at h
  refine lv_aload_n hx hb dX6_rank_13 rfl (lv_at hl 0 rfl) ?_
  refine lv_iconst (v := 1) hx hb dX6_rank_14 rfl ?_
  obtain ⟨r15, th_15, hc, h⟩ := bw_b2_e h
  refine bw_callV S hK hZ hI (mX6_fails l G cy g a z rows asd sm buf bm 0 od om ow ca bo la pl to rd hh 1 r15 th_15 hc) Y_X6_fails V_X6_fails l_X6_114 ⟨(Nat.le_of_ble_eq_true rfl), (Nat.le_of_ble_eq_true rfl)⟩ (q0 := 0) rfl rfl rfl (ws' := (bw_mW cy a z rows asd sm buf bm th_15 od om ow ca bo la pl to rd hh)) (bw_pS _) (bw_pS' _) rfl rfl hl.1 (rest := []) (st1 := [.int r15]) rfl rfl (Nat.le_of_ble_eq_true rfl) dX6_rank_15 ⟨(Nat.le_of_ble_eq_true rfl), (Nat.le_of_ble_eq_true rfl)⟩ (fun H locs hI => ?_)
  exact bw_iret (d := (z, rows, sm, th_15)) (rr := (r, z', rows', sm', th')) S hr hlocks h (fun q : (bw_A1 × bw_A1 × Int32 × Int32) => (bw_mW cy a q.1 q.2.1 asd q.2.2.1 buf bm q.2.2.2 od om ow ca bo la pl to rd hh)) hI rfl dX6_rank_18 hQ
set_option maxHeartbeats 4000000 in
set_option maxRecDepth 100000 in
theorem mX6_set (l : Launch) (G : va_G) (cy : Nat → ClassId) (g : Nat) (a : Nat → Nat) (z : bw_A1) (rows : bw_A1) (asd : bw_A1) (sm : Int32) (buf : bw_A1) (bm : Int32) (th : Int32) (od : bw_A1) (om : Int32) (ow : Int32) (ca : Int32) (bo : Int32) (la : Int32) (pl : Int32) (to : Int32) (rd : bw_A1) (hh : Int64) (p1 : Int32) (p2 : Int32) (r : Int32) (z' : bw_A1) (rows' : bw_A1) (sm' : Int32) (th' : Int32) (h : fX6_set z rows sm th p1 p2 = some (r, z', rows', sm', th')) : bw_M l yX6_set cX6_set 4 (some .int) 1 22 G cy g [.ref (a 0), .int p1, .int p2] (bw_mW cy a z rows asd sm buf bm th od om ow ca bo la pl to rd hh) (some (.int r)) (bw_mW cy a z' rows' asd sm' buf bm th' od om ow ca bo la pl to rd hh) := by
  refine bw_ofW (by decide +kernel) RX6 rfl (Nat.le_of_ble_eq_true rfl) ?_
  intro p e s m below meth c ls S hr hlocks hK hZ hI hl
  have hx := S.1
  have hb := S.2.1
  have hown := S.2.2.2.1
  have hts := S.2.2.2.2
  generalize va_A _ s.heap.size = A at hI hZ ⊢
  generalize hQ : MQ below _ _ s 0 0 A = Q
  have hl : lv_has ls 4 [(0, .ref (a 0)), (1, .int p1), (2, .int p2)] := hl
  have j32 : ∀ (z : bw_A1) (rows : bw_A1) (sm : Int32) (th : Int32) (x1 : Int32) (x2 : Int32) (s0 : Int32) (s1 : Int32) (s2 : Int32) (H : Heap) (locs : List Loc) (ls : Array Slot), jX6_set_32 z rows sm th x1 x2 s0 s1 s2 = some (r, z', rows', sm', th') → bw_I G A s.heap (bw_mW cy a z rows asd sm buf bm th od om ow ca bo la pl to rd hh) H locs → lv_has ls 4 [(0, .ref (a 0)), (1, .int x1), (2, .int x2)] → W p l e (bw_rm 1 22) s m [.ref (a 0), .int p1, .int p2].toArray below meth c H locs 0 0 Q (F0 m 32 ls [.int s0, .int s1, .int s2]) := by
    intro z rows sm th x1 x2 s0 s1 s2 H locs ls h hI hl
    unfold jX6_set_32 at h
    obtain ⟨r32, hc, h⟩ := bw_b1_e h
    refine bw_callP S hK hZ hI (mX6_in l G cy g s2 s1 s0 r32 hc) Y_X6_in V_X6_in l_X6_35 ⟨(Nat.le_of_ble_eq_true rfl), (Nat.le_of_ble_eq_true rfl)⟩ (rest := []) (st1 := [.int r32]) rfl hl.1 rfl rfl (Nat.le_of_ble_eq_true rfl) dX6_set_32 ⟨(Nat.le_of_ble_eq_true rfl), (Nat.le_of_ble_eq_true rfl)⟩ (fun H locs hI => ?_)
    refine lv_if_ne (tgt := 44) hx hb dX6_set_35 (by decide) (fun c_35 => ?_) (fun c_35 => ?_)
    · rw [if_neg c_35] at h
      refine lv_aload_n hx hb dX6_set_44 rfl (lv_at hl 0 rfl) ?_
      obtain ⟨rows_45, sm_45, hc, h⟩ := bw_b2_e h
      refine bw_callV S hK hZ hI (mX6_save l G cy g a z rows asd sm buf bm th od om ow ca bo la pl to rd hh rows_45 sm_45 hc) Y_X6_save V_X6_save l_X6_117 ⟨(Nat.le_of_ble_eq_true rfl), (Nat.le_of_ble_eq_true rfl)⟩ (q0 := 0) rfl rfl rfl (ws' := (bw_mW cy a z rows_45 asd sm_45 buf bm th od om ow ca bo la pl to rd hh)) (bw_pS _) (bw_pS' _) rfl rfl hl.1 (rest := []) (st1 := []) rfl rfl (Nat.le_of_ble_eq_true rfl) dX6_set_45 ⟨(Nat.le_of_ble_eq_true rfl), (Nat.le_of_ble_eq_true rfl)⟩ (fun H locs hI => ?_)
      refine lv_aload_n hx hb dX6_set_48 rfl (lv_at hl 0 rfl) ?_
      refine bw_get S hK hI 0 0 rfl rfl (by decide) i_X6 f_X6_7 rfl dX6_set_49 ?_
      refine lv_iconst (v := 3) hx hb dX6_set_52 rfl ?_
      refine lv_iload_n hx hb dX6_set_53 rfl (lv_at hl 1 rfl) ?_
      refine lv_iadd hx hb dX6_set_54 ?_
      obtain ⟨v55, hv, h⟩ := bw_b1_e h
      refine bw_iald hx hb hK hI 1 hv rfl dX6_set_55 ?_
      refine lv_istore_n (lv' := [(3, .int v55), (0, .ref (a 0)), (1, .int x1), (2, .int x2)]) hx hb dX6_set_56 rfl hl (by decide) rfl (fun ls hl => ?_)
      refine lv_aload_n hx hb dX6_set_57 rfl (lv_at hl 1 rfl) ?_
      refine bw_get S hK hI 0 0 rfl rfl (by decide) i_X6 f_X6_7 rfl dX6_set_58 ?_
      refine lv_iconst (v := 3) hx hb dX6_set_61 rfl ?_
      refine lv_iload_n hx hb dX6_set_62 rfl (lv_at hl 2 rfl) ?_
      refine lv_iadd hx hb dX6_set_63 ?_
      refine lv_iload_n hx hb dX6_set_64 rfl (lv_at hl 3 rfl) ?_
      obtain ⟨z_65, hv, h⟩ := bw_b1_e h
      refine bw_iast hx hb hK hI 1 (ws' := (bw_mW cy a z_65 rows_45 asd sm_45 buf bm th od om ow ca bo la pl to rd hh)) hv rfl rfl dX6_set_65 (fun H locs hI => ?_)
      refine lv_iload_n hx hb dX6_set_66 rfl (lv_at hl 0 rfl) ?_
      exact bw_iret (d := (z_65, rows_45, sm_45, th)) (rr := (r, z', rows', sm', th')) S hr hlocks h (fun q : (bw_A1 × bw_A1 × Int32 × Int32) => (bw_mW cy a q.1 q.2.1 asd q.2.2.1 buf bm q.2.2.2 od om ow ca bo la pl to rd hh)) hI rfl dX6_set_67 hQ
    rw [if_pos c_35] at h
    refine lv_aload_n hx hb dX6_set_38 rfl (lv_at hl 0 rfl) ?_
    refine lv_iconst (v := 2) hx hb dX6_set_39 rfl ?_
    obtain ⟨r40, th_40, hc, h⟩ := bw_b2_e h
    refine bw_callV S hK hZ hI (mX6_fails l G cy g a z rows asd sm buf bm th od om ow ca bo la pl to rd hh 2 r40 th_40 hc) Y_X6_fails V_X6_fails l_X6_114 ⟨(Nat.le_of_ble_eq_true rfl), (Nat.le_of_ble_eq_true rfl)⟩ (q0 := 0) rfl rfl rfl (ws' := (bw_mW cy a z rows asd sm buf bm th_40 od om ow ca bo la pl to rd hh)) (bw_pS _) (bw_pS' _) rfl rfl hl.1 (rest := []) (st1 := [.int r40]) rfl rfl (Nat.le_of_ble_eq_true rfl) dX6_set_40 ⟨(Nat.le_of_ble_eq_true rfl), (Nat.le_of_ble_eq_true rfl)⟩ (fun H locs hI => ?_)
    exact bw_iret (d := (z, rows, sm, th_40)) (rr := (r, z', rows', sm', th')) S hr hlocks h (fun q : (bw_A1 × bw_A1 × Int32 × Int32) => (bw_mW cy a q.1 q.2.1 asd q.2.2.1 buf bm q.2.2.2 od om ow ca bo la pl to rd hh)) hI rfl dX6_set_43 hQ
  unfold fX6_set at h
  refine lv_aload_n hx hb dX6_set_0 rfl (lv_at hl 0 rfl) ?_
  refine lv_iconst (v := 0) hx hb dX6_set_1 rfl ?_
  refine bw_put S hK hI 0 6 (ws' := (bw_mW cy a z rows asd sm buf bm 0 od om ow ca bo la pl to rd hh)) tyX6 tyX6_ok nmX6 rfl rfl (by decide) i_X6 f_X6_28 rfl rfl rfl rfl (Nat.le_of_ble_eq_true rfl) rfl dX6_set_2 (fun H locs hI => ?_)
  refine lv_iload_n hx hb dX6_set_5 rfl (lv_at hl 1 rfl) ?_
  refine lv_iconst (v := 0) hx hb dX6_set_6 rfl ?_
  refine lv_iconst (v := 2) hx hb dX6_set_7 rfl ?_
  obtain ⟨r8, hc, h⟩ := bw_b1_e h
  refine bw_callP S hK hZ hI (mX6_in l G cy g p1 0 2 r8 hc) Y_X6_in V_X6_in l_X6_35 ⟨(Nat.le_of_ble_eq_true rfl), (Nat.le_of_ble_eq_true rfl)⟩ (rest := []) (st1 := [.int r8]) rfl hl.1 rfl rfl (Nat.le_of_ble_eq_true rfl) dX6_set_8 ⟨(Nat.le_of_ble_eq_true rfl), (Nat.le_of_ble_eq_true rfl)⟩ (fun H locs hI => ?_)
  refine lv_if_ne (tgt := 20) hx hb dX6_set_11 (by decide) (fun c_11 => ?_) (fun c_11 => ?_)
  · rw [if_neg c_11] at h
    refine lv_iload_n hx hb dX6_set_20 rfl (lv_at hl 2 rfl) ?_
    refine lv_iconst (v := 0) hx hb dX6_set_21 rfl ?_
    refine lv_iload_n hx hb dX6_set_22 rfl (lv_at hl 1 rfl) ?_
    refine lv_if_ne (tgt := 30) hx hb dX6_set_23 (by decide) (fun c_23 => ?_) (fun c_23 => ?_)
    · rw [if_neg c_23] at h
      refine lv_bipush (v := 100) hx hb dX6_set_30 (by decide) ?_
      exact j32 z rows sm 0 p1 p2 100 0 p2 _ _ _ h hI (lv_sub hl [0,1,2] rfl)
    rw [if_pos c_23] at h
    refine lv_iconst (v := 2) hx hb dX6_set_26 rfl ?_
    refine lv_goto (tgt := 32) hx hb dX6_set_27 (by decide) ?_
    exact j32 z rows sm 0 p1 p2 2 0 p2 _ _ _ h hI (lv_sub hl [0,1,2] rfl)
  rw [if_pos c_11] at h
  refine lv_aload_n hx hb dX6_set_14 rfl (lv_at hl 0 rfl) ?_
  refine lv_iconst (v := 1) hx hb dX6_set_15 rfl ?_
  obtain ⟨r16, th_16, hc, h⟩ := bw_b2_e h
  refine bw_callV S hK hZ hI (mX6_fails l G cy g a z rows asd sm buf bm 0 od om ow ca bo la pl to rd hh 1 r16 th_16 hc) Y_X6_fails V_X6_fails l_X6_114 ⟨(Nat.le_of_ble_eq_true rfl), (Nat.le_of_ble_eq_true rfl)⟩ (q0 := 0) rfl rfl rfl (ws' := (bw_mW cy a z rows asd sm buf bm th_16 od om ow ca bo la pl to rd hh)) (bw_pS _) (bw_pS' _) rfl rfl hl.1 (rest := []) (st1 := [.int r16]) rfl rfl (Nat.le_of_ble_eq_true rfl) dX6_set_16 ⟨(Nat.le_of_ble_eq_true rfl), (Nat.le_of_ble_eq_true rfl)⟩ (fun H locs hI => ?_)
  exact bw_iret (d := (z, rows, sm, th_16)) (rr := (r, z', rows', sm', th')) S hr hlocks h (fun q : (bw_A1 × bw_A1 × Int32 × Int32) => (bw_mW cy a q.1 q.2.1 asd q.2.2.1 buf bm q.2.2.2 od om ow ca bo la pl to rd hh)) hI rfl dX6_set_19 hQ
set_option maxHeartbeats 4000000 in
set_option maxRecDepth 100000 in
theorem mX6_done (l : Launch) (G : va_G) (cy : Nat → ClassId) (g : Nat) (a : Nat → Nat) (z : bw_A1) (rows : bw_A1) (asd : bw_A1) (sm : Int32) (buf : bw_A1) (bm : Int32) (th : Int32) (od : bw_A1) (om : Int32) (ow : Int32) (ca : Int32) (bo : Int32) (la : Int32) (pl : Int32) (to : Int32) (rd : bw_A1) (hh : Int64) (p1 : Int32) (p2 : Int32) (r : Int32) (z' : bw_A1) (rows' : bw_A1) (sm' : Int32) (th' : Int32) (od' : bw_A1) (om' : Int32) (ow' : Int32) (ca' : Int32) (bo' : Int32) (la' : Int32) (h : fX6_done z rows sm th od om ow ca bo la p1 p2 = some (r, z', rows', sm', th', od', om', ow', ca', bo', la')) : bw_M l yX6_done cX6_done 3 (some .int) 8 184 G cy g [.ref (a 0), .int p1, .int p2] (bw_mW cy a z rows asd sm buf bm th od om ow ca bo la pl to rd hh) (some (.int r)) (bw_mW cy a z' rows' asd sm' buf bm th' od' om' ow' ca' bo' la' pl to rd hh) := by
  refine bw_ofW (by decide +kernel) RX6 rfl (Nat.le_of_ble_eq_true rfl) ?_
  intro p e s m below meth c ls S hr hlocks hK hZ hI hl
  have hx := S.1
  have hb := S.2.1
  have hown := S.2.2.2.1
  have hts := S.2.2.2.2
  generalize va_A _ s.heap.size = A at hI hZ ⊢
  generalize hQ : MQ below _ _ s 0 0 A = Q
  have hl : lv_has ls 3 [(0, .ref (a 0)), (1, .int p1), (2, .int p2)] := hl
  unfold fX6_done at h
  refine lv_aload_n hx hb dX6_done_0 rfl (lv_at hl 0 rfl) ?_
  refine lv_iconst (v := 0) hx hb dX6_done_1 rfl ?_
  refine bw_put S hK hI 0 6 (ws' := (bw_mW cy a z rows asd sm buf bm 0 od om ow ca bo la pl to rd hh)) tyX6 tyX6_ok nmX6 rfl rfl (by decide) i_X6 f_X6_28 rfl rfl rfl rfl (Nat.le_of_ble_eq_true rfl) rfl dX6_done_2 (fun H locs hI => ?_)
  refine lv_aload_n hx hb dX6_done_5 rfl (lv_at hl 0 rfl) ?_
  refine lv_iload_n hx hb dX6_done_6 rfl (lv_at hl 1 rfl) ?_
  obtain ⟨r7, hc, h⟩ := bw_b1_e h
  refine bw_callV S hK hZ hI (mX6_isProject l G cy g a z rows asd sm buf bm 0 od om ow ca bo la pl to rd hh p1 r7 hc) Y_X6_isProject V_X6_isProject l_X6_123 ⟨(Nat.le_of_ble_eq_true rfl), (Nat.le_of_ble_eq_true rfl)⟩ (q0 := 0) rfl rfl rfl (ws' := (bw_mW cy a z rows asd sm buf bm 0 od om ow ca bo la pl to rd hh)) (bw_pS _) (bw_pS' _) rfl rfl hl.1 (rest := []) (st1 := [.int r7]) rfl rfl (Nat.le_of_ble_eq_true rfl) dX6_done_7 ⟨(Nat.le_of_ble_eq_true rfl), (Nat.le_of_ble_eq_true rfl)⟩ (fun H locs hI => ?_)
  refine lv_if_ne (tgt := 19) hx hb dX6_done_10 (by decide) (fun c_10 => ?_) (fun c_10 => ?_)
  · rw [if_neg c_10] at h
    refine lv_iload_n hx hb dX6_done_19 rfl (lv_at hl 2 rfl) ?_
    refine lv_iconst (v := 0) hx hb dX6_done_20 rfl ?_
    refine lv_sipush (v := 300) hx hb dX6_done_21 (by decide) ?_
    obtain ⟨r24, hc, h⟩ := bw_b1_e h
    refine bw_callP S hK hZ hI (mX6_in l G cy g p2 0 300 r24 hc) Y_X6_in V_X6_in l_X6_35 ⟨(Nat.le_of_ble_eq_true rfl), (Nat.le_of_ble_eq_true rfl)⟩ (rest := []) (st1 := [.int r24]) rfl hl.1 rfl rfl (Nat.le_of_ble_eq_true rfl) dX6_done_24 ⟨(Nat.le_of_ble_eq_true rfl), (Nat.le_of_ble_eq_true rfl)⟩ (fun H locs hI => ?_)
    refine lv_if_ne (tgt := 36) hx hb dX6_done_27 (by decide) (fun c_27 => ?_) (fun c_27 => ?_)
    · rw [if_neg c_27] at h
      refine lv_aload_n hx hb dX6_done_36 rfl (lv_at hl 0 rfl) ?_
      refine lv_iload_n hx hb dX6_done_37 rfl (lv_at hl 1 rfl) ?_
      obtain ⟨r38, hc, h⟩ := bw_b1_e h
      refine bw_callV S hK hZ hI (mX6_mayDo l G cy g a z rows asd sm buf bm 0 od om ow ca bo la pl to rd hh p1 r38 hc) Y_X6_mayDo V_X6_mayDo l_X6_129 ⟨(Nat.le_of_ble_eq_true rfl), (Nat.le_of_ble_eq_true rfl)⟩ (q0 := 0) rfl rfl rfl (ws' := (bw_mW cy a z rows asd sm buf bm 0 od om ow ca bo la pl to rd hh)) (bw_pS _) (bw_pS' _) rfl rfl hl.1 (rest := []) (st1 := [.int r38]) rfl rfl (Nat.le_of_ble_eq_true rfl) dX6_done_38 ⟨(Nat.le_of_ble_eq_true rfl), (Nat.le_of_ble_eq_true rfl)⟩ (fun H locs hI => ?_)
      refine lv_if_ne (tgt := 50) hx hb dX6_done_41 (by decide) (fun c_41 => ?_) (fun c_41 => ?_)
      · rw [if_neg c_41] at h
        refine lv_aload_n hx hb dX6_done_50 rfl (lv_at hl 0 rfl) ?_
        obtain ⟨rows_51, sm_51, hc, h⟩ := bw_b2_e h
        refine bw_callV S hK hZ hI (mX6_save l G cy g a z rows asd sm buf bm 0 od om ow ca bo la pl to rd hh rows_51 sm_51 hc) Y_X6_save V_X6_save l_X6_117 ⟨(Nat.le_of_ble_eq_true rfl), (Nat.le_of_ble_eq_true rfl)⟩ (q0 := 0) rfl rfl rfl (ws' := (bw_mW cy a z rows_51 asd sm_51 buf bm 0 od om ow ca bo la pl to rd hh)) (bw_pS _) (bw_pS' _) rfl rfl hl.1 (rest := []) (st1 := []) rfl rfl (Nat.le_of_ble_eq_true rfl) dX6_done_51 ⟨(Nat.le_of_ble_eq_true rfl), (Nat.le_of_ble_eq_true rfl)⟩ (fun H locs hI => ?_)
        refine lv_aload_n hx hb dX6_done_54 rfl (lv_at hl 0 rfl) ?_
        refine lv_iload_n hx hb dX6_done_55 rfl (lv_at hl 1 rfl) ?_
        refine lv_iload_n hx hb dX6_done_56 rfl (lv_at hl 2 rfl) ?_
        obtain ⟨z_57, od_57, om_57, ow_57, ca_57, bo_57, la_57, hc, h⟩ := bw_b7_e h
        refine bw_callV S hK hZ hI (mX6_doNow l G cy g a z rows_51 asd sm_51 buf bm 0 od om ow ca bo la pl to rd hh p1 p2 z_57 od_57 om_57 ow_57 ca_57 bo_57 la_57 hc) Y_X6_doNow V_X6_doNow l_X6_132 ⟨(Nat.le_of_ble_eq_true rfl), (Nat.le_of_ble_eq_true rfl)⟩ (q0 := 0) rfl rfl rfl (ws' := (bw_mW cy a z_57 rows_51 asd sm_51 buf bm 0 od_57 om_57 ow_57 ca_57 bo_57 la_57 pl to rd hh)) (bw_pS _) (bw_pS' _) rfl rfl hl.1 (rest := []) (st1 := []) rfl rfl (Nat.le_of_ble_eq_true rfl) dX6_done_57 ⟨(Nat.le_of_ble_eq_true rfl), (Nat.le_of_ble_eq_true rfl)⟩ (fun H locs hI => ?_)
        refine lv_aload_n hx hb dX6_done_60 rfl (lv_at hl 0 rfl) ?_
        refine bw_get S hK hI 0 12 rfl rfl (by decide) i_X6 f_X6_93 rfl dX6_done_61 ?_
        exact bw_iret (d := (z_57, rows_51, sm_51, 0, od_57, om_57, ow_57, ca_57, bo_57, la_57)) (rr := (r, z', rows', sm', th', od', om', ow', ca', bo', la')) S hr hlocks h (fun q : (bw_A1 × bw_A1 × Int32 × Int32 × bw_A1 × Int32 × Int32 × Int32 × Int32 × Int32) => (bw_mW cy a q.1 q.2.1 asd q.2.2.1 buf bm q.2.2.2.1 q.2.2.2.2.1 q.2.2.2.2.2.1 q.2.2.2.2.2.2.1 q.2.2.2.2.2.2.2.1 q.2.2.2.2.2.2.2.2.1 q.2.2.2.2.2.2.2.2.2 pl to rd hh)) hI rfl dX6_done_64 hQ
      rw [if_pos c_41] at h
      refine lv_aload_n hx hb dX6_done_44 rfl (lv_at hl 0 rfl) ?_
      refine lv_iconst (v := 3) hx hb dX6_done_45 rfl ?_
      obtain ⟨r46, th_46, hc, h⟩ := bw_b2_e h
      refine bw_callV S hK hZ hI (mX6_fails l G cy g a z rows asd sm buf bm 0 od om ow ca bo la pl to rd hh 3 r46 th_46 hc) Y_X6_fails V_X6_fails l_X6_114 ⟨(Nat.le_of_ble_eq_true rfl), (Nat.le_of_ble_eq_true rfl)⟩ (q0 := 0) rfl rfl rfl (ws' := (bw_mW cy a z rows asd sm buf bm th_46 od om ow ca bo la pl to rd hh)) (bw_pS _) (bw_pS' _) rfl rfl hl.1 (rest := []) (st1 := [.int r46]) rfl rfl (Nat.le_of_ble_eq_true rfl) dX6_done_46 ⟨(Nat.le_of_ble_eq_true rfl), (Nat.le_of_ble_eq_true rfl)⟩ (fun H locs hI => ?_)
      exact bw_iret (d := (z, rows, sm, th_46, od, om, ow, ca, bo, la)) (rr := (r, z', rows', sm', th', od', om', ow', ca', bo', la')) S hr hlocks h (fun q : (bw_A1 × bw_A1 × Int32 × Int32 × bw_A1 × Int32 × Int32 × Int32 × Int32 × Int32) => (bw_mW cy a q.1 q.2.1 asd q.2.2.1 buf bm q.2.2.2.1 q.2.2.2.2.1 q.2.2.2.2.2.1 q.2.2.2.2.2.2.1 q.2.2.2.2.2.2.2.1 q.2.2.2.2.2.2.2.2.1 q.2.2.2.2.2.2.2.2.2 pl to rd hh)) hI rfl dX6_done_49 hQ
    rw [if_pos c_27] at h
    refine lv_aload_n hx hb dX6_done_30 rfl (lv_at hl 0 rfl) ?_
    refine lv_iconst (v := 2) hx hb dX6_done_31 rfl ?_
    obtain ⟨r32, th_32, hc, h⟩ := bw_b2_e h
    refine bw_callV S hK hZ hI (mX6_fails l G cy g a z rows asd sm buf bm 0 od om ow ca bo la pl to rd hh 2 r32 th_32 hc) Y_X6_fails V_X6_fails l_X6_114 ⟨(Nat.le_of_ble_eq_true rfl), (Nat.le_of_ble_eq_true rfl)⟩ (q0 := 0) rfl rfl rfl (ws' := (bw_mW cy a z rows asd sm buf bm th_32 od om ow ca bo la pl to rd hh)) (bw_pS _) (bw_pS' _) rfl rfl hl.1 (rest := []) (st1 := [.int r32]) rfl rfl (Nat.le_of_ble_eq_true rfl) dX6_done_32 ⟨(Nat.le_of_ble_eq_true rfl), (Nat.le_of_ble_eq_true rfl)⟩ (fun H locs hI => ?_)
    exact bw_iret (d := (z, rows, sm, th_32, od, om, ow, ca, bo, la)) (rr := (r, z', rows', sm', th', od', om', ow', ca', bo', la')) S hr hlocks h (fun q : (bw_A1 × bw_A1 × Int32 × Int32 × bw_A1 × Int32 × Int32 × Int32 × Int32 × Int32) => (bw_mW cy a q.1 q.2.1 asd q.2.2.1 buf bm q.2.2.2.1 q.2.2.2.2.1 q.2.2.2.2.2.1 q.2.2.2.2.2.2.1 q.2.2.2.2.2.2.2.1 q.2.2.2.2.2.2.2.2.1 q.2.2.2.2.2.2.2.2.2 pl to rd hh)) hI rfl dX6_done_35 hQ
  rw [if_pos c_10] at h
  refine lv_aload_n hx hb dX6_done_13 rfl (lv_at hl 0 rfl) ?_
  refine lv_iconst (v := 1) hx hb dX6_done_14 rfl ?_
  obtain ⟨r15, th_15, hc, h⟩ := bw_b2_e h
  refine bw_callV S hK hZ hI (mX6_fails l G cy g a z rows asd sm buf bm 0 od om ow ca bo la pl to rd hh 1 r15 th_15 hc) Y_X6_fails V_X6_fails l_X6_114 ⟨(Nat.le_of_ble_eq_true rfl), (Nat.le_of_ble_eq_true rfl)⟩ (q0 := 0) rfl rfl rfl (ws' := (bw_mW cy a z rows asd sm buf bm th_15 od om ow ca bo la pl to rd hh)) (bw_pS _) (bw_pS' _) rfl rfl hl.1 (rest := []) (st1 := [.int r15]) rfl rfl (Nat.le_of_ble_eq_true rfl) dX6_done_15 ⟨(Nat.le_of_ble_eq_true rfl), (Nat.le_of_ble_eq_true rfl)⟩ (fun H locs hI => ?_)
  exact bw_iret (d := (z, rows, sm, th_15, od, om, ow, ca, bo, la)) (rr := (r, z', rows', sm', th', od', om', ow', ca', bo', la')) S hr hlocks h (fun q : (bw_A1 × bw_A1 × Int32 × Int32 × bw_A1 × Int32 × Int32 × Int32 × Int32 × Int32) => (bw_mW cy a q.1 q.2.1 asd q.2.2.1 buf bm q.2.2.2.1 q.2.2.2.2.1 q.2.2.2.2.2.1 q.2.2.2.2.2.2.1 q.2.2.2.2.2.2.2.1 q.2.2.2.2.2.2.2.2.1 q.2.2.2.2.2.2.2.2.2 pl to rd hh)) hI rfl dX6_done_18 hQ
set_option maxHeartbeats 4000000 in
set_option maxRecDepth 100000 in
theorem mX6_lend (l : Launch) (G : va_G) (cy : Nat → ClassId) (g : Nat) (a : Nat → Nat) (z : bw_A1) (rows : bw_A1) (asd : bw_A1) (sm : Int32) (buf : bw_A1) (bm : Int32) (th : Int32) (od : bw_A1) (om : Int32) (ow : Int32) (ca : Int32) (bo : Int32) (la : Int32) (pl : Int32) (to : Int32) (rd : bw_A1) (hh : Int64) (p1 : Int32) (p2 : Int32) (p3 : Int32) (r : Int32) (z' : bw_A1) (rows' : bw_A1) (sm' : Int32) (th' : Int32) (h : fX6_lend z rows sm th p1 p2 p3 = some (r, z', rows', sm', th')) : bw_M l yX6_lend cX6_lend 4 (some .int) 3 67 G cy g [.ref (a 0), .int p1, .int p2, .int p3] (bw_mW cy a z rows asd sm buf bm th od om ow ca bo la pl to rd hh) (some (.int r)) (bw_mW cy a z' rows' asd sm' buf bm th' od om ow ca bo la pl to rd hh) := by
  refine bw_ofW (by decide +kernel) RX6 rfl (Nat.le_of_ble_eq_true rfl) ?_
  intro p e s m below meth c ls S hr hlocks hK hZ hI hl
  have hx := S.1
  have hb := S.2.1
  have hown := S.2.2.2.1
  have hts := S.2.2.2.2
  generalize va_A _ s.heap.size = A at hI hZ ⊢
  generalize hQ : MQ below _ _ s 0 0 A = Q
  have hl : lv_has ls 4 [(0, .ref (a 0)), (1, .int p1), (2, .int p2), (3, .int p3)] := hl
  have j21 : ∀ (z : bw_A1) (rows : bw_A1) (sm : Int32) (th : Int32) (H : Heap) (locs : List Loc) (ls : Array Slot), jX6_lend_21 z rows sm th = some (r, z', rows', sm', th') → bw_I G A s.heap (bw_mW cy a z rows asd sm buf bm th od om ow ca bo la pl to rd hh) H locs → lv_has ls 4 [(0, .ref (a 0))] → W p l e (bw_rm 3 67) s m [.ref (a 0), .int p1, .int p2, .int p3].toArray below meth c H locs 0 0 Q (F0 m 21 ls []) := by
    intro z rows sm th H locs ls h hI hl
    unfold jX6_lend_21 at h
    refine lv_aload_n hx hb dX6_lend_21 rfl (lv_at hl 0 rfl) ?_
    refine lv_iconst (v := 1) hx hb dX6_lend_22 rfl ?_
    obtain ⟨r23, th_23, hc, h⟩ := bw_b2_e h
    refine bw_callV S hK hZ hI (mX6_fails l G cy g a z rows asd sm buf bm th od om ow ca bo la pl to rd hh 1 r23 th_23 hc) Y_X6_fails V_X6_fails l_X6_114 ⟨(Nat.le_of_ble_eq_true rfl), (Nat.le_of_ble_eq_true rfl)⟩ (q0 := 0) rfl rfl rfl (ws' := (bw_mW cy a z rows asd sm buf bm th_23 od om ow ca bo la pl to rd hh)) (bw_pS _) (bw_pS' _) rfl rfl hl.1 (rest := []) (st1 := [.int r23]) rfl rfl (Nat.le_of_ble_eq_true rfl) dX6_lend_23 ⟨(Nat.le_of_ble_eq_true rfl), (Nat.le_of_ble_eq_true rfl)⟩ (fun H locs hI => ?_)
    exact bw_iret (d := (z, rows, sm, th_23)) (rr := (r, z', rows', sm', th')) S hr hlocks h (fun q : (bw_A1 × bw_A1 × Int32 × Int32) => (bw_mW cy a q.1 q.2.1 asd q.2.2.1 buf bm q.2.2.2 od om ow ca bo la pl to rd hh)) hI rfl dX6_lend_26 hQ
  have j42 : ∀ (z : bw_A1) (rows : bw_A1) (sm : Int32) (th : Int32) (H : Heap) (locs : List Loc) (ls : Array Slot), jX6_lend_42 z rows sm th = some (r, z', rows', sm', th') → bw_I G A s.heap (bw_mW cy a z rows asd sm buf bm th od om ow ca bo la pl to rd hh) H locs → lv_has ls 4 [(0, .ref (a 0))] → W p l e (bw_rm 3 67) s m [.ref (a 0), .int p1, .int p2, .int p3].toArray below meth c H locs 0 0 Q (F0 m 42 ls []) := by
    intro z rows sm th H locs ls h hI hl
    unfold jX6_lend_42 at h
    refine lv_aload_n hx hb dX6_lend_42 rfl (lv_at hl 0 rfl) ?_
    refine lv_iconst (v := 2) hx hb dX6_lend_43 rfl ?_
    obtain ⟨r44, th_44, hc, h⟩ := bw_b2_e h
    refine bw_callV S hK hZ hI (mX6_fails l G cy g a z rows asd sm buf bm th od om ow ca bo la pl to rd hh 2 r44 th_44 hc) Y_X6_fails V_X6_fails l_X6_114 ⟨(Nat.le_of_ble_eq_true rfl), (Nat.le_of_ble_eq_true rfl)⟩ (q0 := 0) rfl rfl rfl (ws' := (bw_mW cy a z rows asd sm buf bm th_44 od om ow ca bo la pl to rd hh)) (bw_pS _) (bw_pS' _) rfl rfl hl.1 (rest := []) (st1 := [.int r44]) rfl rfl (Nat.le_of_ble_eq_true rfl) dX6_lend_44 ⟨(Nat.le_of_ble_eq_true rfl), (Nat.le_of_ble_eq_true rfl)⟩ (fun H locs hI => ?_)
    exact bw_iret (d := (z, rows, sm, th_44)) (rr := (r, z', rows', sm', th')) S hr hlocks h (fun q : (bw_A1 × bw_A1 × Int32 × Int32) => (bw_mW cy a q.1 q.2.1 asd q.2.2.1 buf bm q.2.2.2 od om ow ca bo la pl to rd hh)) hI rfl dX6_lend_47 hQ
  have j79 : ∀ (z : bw_A1) (rows : bw_A1) (sm : Int32) (th : Int32) (H : Heap) (locs : List Loc) (ls : Array Slot), jX6_lend_79 z rows sm th = some (r, z', rows', sm', th') → bw_I G A s.heap (bw_mW cy a z rows asd sm buf bm th od om ow ca bo la pl to rd hh) H locs → lv_has ls 4 [(0, .ref (a 0))] → W p l e (bw_rm 3 67) s m [.ref (a 0), .int p1, .int p2, .int p3].toArray below meth c H locs 0 0 Q (F0 m 79 ls []) := by
    intro z rows sm th H locs ls h hI hl
    unfold jX6_lend_79 at h
    refine lv_aload_n hx hb dX6_lend_79 rfl (lv_at hl 0 rfl) ?_
    refine lv_iconst (v := 3) hx hb dX6_lend_80 rfl ?_
    obtain ⟨r81, th_81, hc, h⟩ := bw_b2_e h
    refine bw_callV S hK hZ hI (mX6_fails l G cy g a z rows asd sm buf bm th od om ow ca bo la pl to rd hh 3 r81 th_81 hc) Y_X6_fails V_X6_fails l_X6_114 ⟨(Nat.le_of_ble_eq_true rfl), (Nat.le_of_ble_eq_true rfl)⟩ (q0 := 0) rfl rfl rfl (ws' := (bw_mW cy a z rows asd sm buf bm th_81 od om ow ca bo la pl to rd hh)) (bw_pS _) (bw_pS' _) rfl rfl hl.1 (rest := []) (st1 := [.int r81]) rfl rfl (Nat.le_of_ble_eq_true rfl) dX6_lend_81 ⟨(Nat.le_of_ble_eq_true rfl), (Nat.le_of_ble_eq_true rfl)⟩ (fun H locs hI => ?_)
    exact bw_iret (d := (z, rows, sm, th_81)) (rr := (r, z', rows', sm', th')) S hr hlocks h (fun q : (bw_A1 × bw_A1 × Int32 × Int32) => (bw_mW cy a q.1 q.2.1 asd q.2.2.1 buf bm q.2.2.2 od om ow ca bo la pl to rd hh)) hI rfl dX6_lend_84 hQ
  unfold fX6_lend at h
  refine lv_aload_n hx hb dX6_lend_0 rfl (lv_at hl 0 rfl) ?_
  refine lv_iconst (v := 0) hx hb dX6_lend_1 rfl ?_
  refine bw_put S hK hI 0 6 (ws' := (bw_mW cy a z rows asd sm buf bm 0 od om ow ca bo la pl to rd hh)) tyX6 tyX6_ok nmX6 rfl rfl (by decide) i_X6 f_X6_28 rfl rfl rfl rfl (Nat.le_of_ble_eq_true rfl) rfl dX6_lend_2 (fun H locs hI => ?_)
  refine lv_aload_n hx hb dX6_lend_5 rfl (lv_at hl 0 rfl) ?_
  refine lv_iload_n hx hb dX6_lend_6 rfl (lv_at hl 1 rfl) ?_
  obtain ⟨r7, hc, h⟩ := bw_b1_e h
  refine bw_callV S hK hZ hI (mX6_isProject l G cy g a z rows asd sm buf bm 0 od om ow ca bo la pl to rd hh p1 r7 hc) Y_X6_isProject V_X6_isProject l_X6_123 ⟨(Nat.le_of_ble_eq_true rfl), (Nat.le_of_ble_eq_true rfl)⟩ (q0 := 0) rfl rfl rfl (ws' := (bw_mW cy a z rows asd sm buf bm 0 od om ow ca bo la pl to rd hh)) (bw_pS _) (bw_pS' _) rfl rfl hl.1 (rest := []) (st1 := [.int r7]) rfl rfl (Nat.le_of_ble_eq_true rfl) dX6_lend_7 ⟨(Nat.le_of_ble_eq_true rfl), (Nat.le_of_ble_eq_true rfl)⟩ (fun H locs hI => ?_)
  refine lv_if_eq (tgt := 21) hx hb dX6_lend_10 (by decide) (fun c_10 => ?_) (fun c_10 => ?_)
  · rw [if_pos c_10] at h
    exact j21 z rows sm 0 _ _ _ h hI (lv_sub hl [0] rfl)
  rw [if_neg c_10] at h
  refine lv_aload_n hx hb dX6_lend_13 rfl (lv_at hl 0 rfl) ?_
  refine lv_iload_n hx hb dX6_lend_14 rfl (lv_at hl 2 rfl) ?_
  obtain ⟨r15, hc, h⟩ := bw_b1_e h
  refine bw_callV S hK hZ hI (mX6_isProject l G cy g a z rows asd sm buf bm 0 od om ow ca bo la pl to rd hh p2 r15 hc) Y_X6_isProject V_X6_isProject l_X6_123 ⟨(Nat.le_of_ble_eq_true rfl), (Nat.le_of_ble_eq_true rfl)⟩ (q0 := 0) rfl rfl rfl (ws' := (bw_mW cy a z rows asd sm buf bm 0 od om ow ca bo la pl to rd hh)) (bw_pS _) (bw_pS' _) rfl rfl hl.1 (rest := []) (st1 := [.int r15]) rfl rfl (Nat.le_of_ble_eq_true rfl) dX6_lend_15 ⟨(Nat.le_of_ble_eq_true rfl), (Nat.le_of_ble_eq_true rfl)⟩ (fun H locs hI => ?_)
  refine lv_if_ne (tgt := 27) hx hb dX6_lend_18 (by decide) (fun c_18 => ?_) (fun c_18 => ?_)
  · rw [if_neg c_18] at h
    refine lv_iload_n hx hb dX6_lend_27 rfl (lv_at hl 1 rfl) ?_
    refine lv_iload_n hx hb dX6_lend_28 rfl (lv_at hl 2 rfl) ?_
    refine lv_icmp_eq (tgt := 42) hx hb dX6_lend_29 (by decide) (fun c_29 => ?_) (fun c_29 => ?_)
    · rw [if_pos c_29] at h
      exact j42 z rows sm 0 _ _ _ h hI (lv_sub hl [0] rfl)
    rw [if_neg c_29] at h
    refine lv_iload_n hx hb dX6_lend_32 rfl (lv_at hl 3 rfl) ?_
    refine lv_iconst (v := 1) hx hb dX6_lend_33 rfl ?_
    refine lv_bipush (v := 99) hx hb dX6_lend_34 (by decide) ?_
    obtain ⟨r36, hc, h⟩ := bw_b1_e h
    refine bw_callP S hK hZ hI (mX6_in l G cy g p3 1 99 r36 hc) Y_X6_in V_X6_in l_X6_35 ⟨(Nat.le_of_ble_eq_true rfl), (Nat.le_of_ble_eq_true rfl)⟩ (rest := []) (st1 := [.int r36]) rfl hl.1 rfl rfl (Nat.le_of_ble_eq_true rfl) dX6_lend_36 ⟨(Nat.le_of_ble_eq_true rfl), (Nat.le_of_ble_eq_true rfl)⟩ (fun H locs hI => ?_)
    refine lv_if_ne (tgt := 48) hx hb dX6_lend_39 (by decide) (fun c_39 => ?_) (fun c_39 => ?_)
    · rw [if_neg c_39] at h
      refine lv_aload_n hx hb dX6_lend_48 rfl (lv_at hl 0 rfl) ?_
      refine lv_iload_n hx hb dX6_lend_49 rfl (lv_at hl 1 rfl) ?_
      obtain ⟨r50, hc, h⟩ := bw_b1_e h
      refine bw_callV S hK hZ hI (mX6_isOpen l G cy g a z rows asd sm buf bm 0 od om ow ca bo la pl to rd hh p1 r50 hc) Y_X6_isOpen V_X6_isOpen l_X6_43 ⟨(Nat.le_of_ble_eq_true rfl), (Nat.le_of_ble_eq_true rfl)⟩ (q0 := 0) rfl rfl rfl (ws' := (bw_mW cy a z rows asd sm buf bm 0 od om ow ca bo la pl to rd hh)) (bw_pS _) (bw_pS' _) rfl rfl hl.1 (rest := []) (st1 := [.int r50]) rfl rfl (Nat.le_of_ble_eq_true rfl) dX6_lend_50 ⟨(Nat.le_of_ble_eq_true rfl), (Nat.le_of_ble_eq_true rfl)⟩ (fun H locs hI => ?_)
      refine lv_if_eq (tgt := 79) hx hb dX6_lend_53 (by decide) (fun c_53 => ?_) (fun c_53 => ?_)
      · rw [if_pos c_53] at h
        exact j79 z rows sm 0 _ _ _ h hI (lv_sub hl [0] rfl)
      rw [if_neg c_53] at h
      refine lv_aload_n hx hb dX6_lend_56 rfl (lv_at hl 0 rfl) ?_
      refine lv_iload_n hx hb dX6_lend_57 rfl (lv_at hl 2 rfl) ?_
      obtain ⟨r58, hc, h⟩ := bw_b1_e h
      refine bw_callV S hK hZ hI (mX6_isOpen l G cy g a z rows asd sm buf bm 0 od om ow ca bo la pl to rd hh p2 r58 hc) Y_X6_isOpen V_X6_isOpen l_X6_43 ⟨(Nat.le_of_ble_eq_true rfl), (Nat.le_of_ble_eq_true rfl)⟩ (q0 := 0) rfl rfl rfl (ws' := (bw_mW cy a z rows asd sm buf bm 0 od om ow ca bo la pl to rd hh)) (bw_pS _) (bw_pS' _) rfl rfl hl.1 (rest := []) (st1 := [.int r58]) rfl rfl (Nat.le_of_ble_eq_true rfl) dX6_lend_58 ⟨(Nat.le_of_ble_eq_true rfl), (Nat.le_of_ble_eq_true rfl)⟩ (fun H locs hI => ?_)
      refine lv_if_eq (tgt := 79) hx hb dX6_lend_61 (by decide) (fun c_61 => ?_) (fun c_61 => ?_)
      · rw [if_pos c_61] at h
        exact j79 z rows sm 0 _ _ _ h hI (lv_sub hl [0] rfl)
      rw [if_neg c_61] at h
      refine lv_aload_n hx hb dX6_lend_64 rfl (lv_at hl 0 rfl) ?_
      refine bw_get S hK hI 0 0 rfl rfl (by decide) i_X6 f_X6_7 rfl dX6_lend_65 ?_
      refine lv_iload_n hx hb dX6_lend_68 rfl (lv_at hl 1 rfl) ?_
      obtain ⟨r69, hc, h⟩ := bw_b1_e h
      refine bw_callP S hK hZ hI (mX6_at l G cy g p1 r69 hc) Y_X6_at V_X6_at l_X6_39 ⟨(Nat.le_of_ble_eq_true rfl), (Nat.le_of_ble_eq_true rfl)⟩ (rest := [.ref (a 1)]) (st1 := [.int r69, .ref (a 1)]) rfl hl.1 rfl rfl (Nat.le_of_ble_eq_true rfl) dX6_lend_69 ⟨(Nat.le_of_ble_eq_true rfl), (Nat.le_of_ble_eq_true rfl)⟩ (fun H locs hI => ?_)
      refine lv_iconst (v := 2) hx hb dX6_lend_72 rfl ?_
      refine lv_iadd hx hb dX6_lend_73 ?_
      obtain ⟨v74, hv, h⟩ := bw_b1_e h
      refine bw_iald hx hb hK hI 1 hv rfl dX6_lend_74 ?_
      refine lv_iload_n hx hb dX6_lend_75 rfl (lv_at hl 3 rfl) ?_
      refine lv_icmp_ge (tgt := 85) hx hb dX6_lend_76 (by decide) (fun c_76 => ?_) (fun c_76 => ?_)
      · rw [if_pos c_76] at h
        refine lv_aload_n hx hb dX6_lend_85 rfl (lv_at hl 0 rfl) ?_
        obtain ⟨rows_86, sm_86, hc, h⟩ := bw_b2_e h
        refine bw_callV S hK hZ hI (mX6_save l G cy g a z rows asd sm buf bm 0 od om ow ca bo la pl to rd hh rows_86 sm_86 hc) Y_X6_save V_X6_save l_X6_117 ⟨(Nat.le_of_ble_eq_true rfl), (Nat.le_of_ble_eq_true rfl)⟩ (q0 := 0) rfl rfl rfl (ws' := (bw_mW cy a z rows_86 asd sm_86 buf bm 0 od om ow ca bo la pl to rd hh)) (bw_pS _) (bw_pS' _) rfl rfl hl.1 (rest := []) (st1 := []) rfl rfl (Nat.le_of_ble_eq_true rfl) dX6_lend_86 ⟨(Nat.le_of_ble_eq_true rfl), (Nat.le_of_ble_eq_true rfl)⟩ (fun H locs hI => ?_)
        refine lv_aload_n hx hb dX6_lend_89 rfl (lv_at hl 0 rfl) ?_
        refine lv_iload_n hx hb dX6_lend_90 rfl (lv_at hl 1 rfl) ?_
        refine lv_iload_n hx hb dX6_lend_91 rfl (lv_at hl 2 rfl) ?_
        refine lv_iload_n hx hb dX6_lend_92 rfl (lv_at hl 3 rfl) ?_
        obtain ⟨z_93, hc, h⟩ := bw_b1_e h
        refine bw_callV S hK hZ hI (mX6_addLoan l G cy g a z rows_86 asd sm_86 buf bm 0 od om ow ca bo la pl to rd hh p1 p2 p3 z_93 hc) Y_X6_addLoan V_X6_addLoan l_X6_86 ⟨(Nat.le_of_ble_eq_true rfl), (Nat.le_of_ble_eq_true rfl)⟩ (q0 := 0) rfl rfl rfl (ws' := (bw_mW cy a z_93 rows_86 asd sm_86 buf bm 0 od om ow ca bo la pl to rd hh)) (bw_pS _) (bw_pS' _) rfl rfl hl.1 (rest := []) (st1 := []) rfl rfl (Nat.le_of_ble_eq_true rfl) dX6_lend_93 ⟨(Nat.le_of_ble_eq_true rfl), (Nat.le_of_ble_eq_true rfl)⟩ (fun H locs hI => ?_)
        refine lv_aload_n hx hb dX6_lend_96 rfl (lv_at hl 0 rfl) ?_
        refine bw_get S hK hI 0 0 rfl rfl (by decide) i_X6 f_X6_7 rfl dX6_lend_97 ?_
        refine lv_iload_n hx hb dX6_lend_100 rfl (lv_at hl 1 rfl) ?_
        obtain ⟨r101, hc, h⟩ := bw_b1_e h
        refine bw_callP S hK hZ hI (mX6_at l G cy g p1 r101 hc) Y_X6_at V_X6_at l_X6_39 ⟨(Nat.le_of_ble_eq_true rfl), (Nat.le_of_ble_eq_true rfl)⟩ (rest := [.ref (a 1)]) (st1 := [.int r101, .ref (a 1)]) rfl hl.1 rfl rfl (Nat.le_of_ble_eq_true rfl) dX6_lend_101 ⟨(Nat.le_of_ble_eq_true rfl), (Nat.le_of_ble_eq_true rfl)⟩ (fun H locs hI => ?_)
        refine lv_iconst (v := 2) hx hb dX6_lend_104 rfl ?_
        refine lv_iadd hx hb dX6_lend_105 ?_
        refine lv_dup2_11 hx hb dX6_lend_106 rfl rfl ?_
        obtain ⟨v107, hv, h⟩ := bw_b1_e h
        refine bw_iald hx hb hK hI 1 hv rfl dX6_lend_107 ?_
        refine lv_iload_n hx hb dX6_lend_108 rfl (lv_at hl 3 rfl) ?_
        refine lv_isub hx hb dX6_lend_109 ?_
        obtain ⟨z_110, hv, h⟩ := bw_b1_e h
        refine bw_iast hx hb hK hI 1 (ws' := (bw_mW cy a z_110 rows_86 asd sm_86 buf bm 0 od om ow ca bo la pl to rd hh)) hv rfl rfl dX6_lend_110 (fun H locs hI => ?_)
        refine lv_aload_n hx hb dX6_lend_111 rfl (lv_at hl 0 rfl) ?_
        refine bw_get S hK hI 0 0 rfl rfl (by decide) i_X6 f_X6_7 rfl dX6_lend_112 ?_
        refine lv_iload_n hx hb dX6_lend_115 rfl (lv_at hl 2 rfl) ?_
        obtain ⟨r116, hc, h⟩ := bw_b1_e h
        refine bw_callP S hK hZ hI (mX6_at l G cy g p2 r116 hc) Y_X6_at V_X6_at l_X6_39 ⟨(Nat.le_of_ble_eq_true rfl), (Nat.le_of_ble_eq_true rfl)⟩ (rest := [.ref (a 1)]) (st1 := [.int r116, .ref (a 1)]) rfl hl.1 rfl rfl (Nat.le_of_ble_eq_true rfl) dX6_lend_116 ⟨(Nat.le_of_ble_eq_true rfl), (Nat.le_of_ble_eq_true rfl)⟩ (fun H locs hI => ?_)
        refine lv_iconst (v := 2) hx hb dX6_lend_119 rfl ?_
        refine lv_iadd hx hb dX6_lend_120 ?_
        refine lv_dup2_11 hx hb dX6_lend_121 rfl rfl ?_
        obtain ⟨v122, hv, h⟩ := bw_b1_e h
        refine bw_iald hx hb hK hI 1 hv rfl dX6_lend_122 ?_
        refine lv_iload_n hx hb dX6_lend_123 rfl (lv_at hl 3 rfl) ?_
        refine lv_iadd hx hb dX6_lend_124 ?_
        obtain ⟨z_125, hv, h⟩ := bw_b1_e h
        refine bw_iast hx hb hK hI 1 (ws' := (bw_mW cy a z_125 rows_86 asd sm_86 buf bm 0 od om ow ca bo la pl to rd hh)) hv rfl rfl dX6_lend_125 (fun H locs hI => ?_)
        refine lv_aload_n hx hb dX6_lend_126 rfl (lv_at hl 0 rfl) ?_
        refine lv_iload_n hx hb dX6_lend_127 rfl (lv_at hl 2 rfl) ?_
        refine lv_iload_n hx hb dX6_lend_128 rfl (lv_at hl 1 rfl) ?_
        obtain ⟨r129, hc, h⟩ := bw_b1_e h
        refine bw_callV S hK hZ hI (mX6_owedOf l G cy g a z_125 rows_86 asd sm_86 buf bm 0 od om ow ca bo la pl to rd hh p2 p1 r129 hc) Y_X6_owedOf V_X6_owedOf l_X6_135 ⟨(Nat.le_of_ble_eq_true rfl), (Nat.le_of_ble_eq_true rfl)⟩ (q0 := 0) rfl rfl rfl (ws' := (bw_mW cy a z_125 rows_86 asd sm_86 buf bm 0 od om ow ca bo la pl to rd hh)) (bw_pS _) (bw_pS' _) rfl rfl hl.1 (rest := []) (st1 := [.int r129]) rfl rfl (Nat.le_of_ble_eq_true rfl) dX6_lend_129 ⟨(Nat.le_of_ble_eq_true rfl), (Nat.le_of_ble_eq_true rfl)⟩ (fun H locs hI => ?_)
        exact bw_iret (d := (z_125, rows_86, sm_86, 0)) (rr := (r, z', rows', sm', th')) S hr hlocks h (fun q : (bw_A1 × bw_A1 × Int32 × Int32) => (bw_mW cy a q.1 q.2.1 asd q.2.2.1 buf bm q.2.2.2 od om ow ca bo la pl to rd hh)) hI rfl dX6_lend_132 hQ
      rw [if_neg c_76] at h
      exact j79 z rows sm 0 _ _ _ h hI (lv_sub hl [0] rfl)
    rw [if_pos c_39] at h
    exact j42 z rows sm 0 _ _ _ h hI (lv_sub hl [0] rfl)
  rw [if_pos c_18] at h
  exact j21 z rows sm 0 _ _ _ h hI (lv_sub hl [0] rfl)
