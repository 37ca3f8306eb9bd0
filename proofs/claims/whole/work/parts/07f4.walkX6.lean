set_option maxHeartbeats 4000000 in
set_option maxRecDepth 100000 in
theorem mX6_payBack (l : Launch) (G : va_G) (cy : Nat → ClassId) (g : Nat) (a : Nat → Nat) (z : bw_A1) (rows : bw_A1) (asd : bw_A1) (sm : Int32) (buf : bw_A1) (bm : Int32) (th : Int32) (od : bw_A1) (om : Int32) (ow : Int32) (ca : Int32) (bo : Int32) (la : Int32) (pl : Int32) (to : Int32) (rd : bw_A1) (hh : Int64) (p1 : Int32) (p2 : Int32) (p3 : Int32) (r : Int32) (z' : bw_A1) (rows' : bw_A1) (sm' : Int32) (th' : Int32) (h : fX6_payBack z rows sm th p1 p2 p3 = some (r, z', rows', sm', th')) : bw_M l yX6_payBack cX6_payBack 4 (some .int) 3 66 G cy g [.ref (a 0), .int p1, .int p2, .int p3] (bw_mW cy a z rows asd sm buf bm th od om ow ca bo la pl to rd hh) (some (.int r)) (bw_mW cy a z' rows' asd sm' buf bm th' od om ow ca bo la pl to rd hh) := by
  refine bw_ofW (by decide +kernel) RX6 rfl (Nat.le_of_ble_eq_true rfl) ?_
  intro p e s m below meth c ls S hr hlocks hK hZ hI hl
  have hx := S.1
  have hb := S.2.1
  have hown := S.2.2.2.1
  have hts := S.2.2.2.2
  generalize va_A _ s.heap.size = A at hI hZ ⊢
  generalize hQ : MQ below _ _ s 0 0 A = Q
  have hl : lv_has ls 4 [(0, .ref (a 0)), (1, .int p1), (2, .int p2), (3, .int p3)] := hl
  have j21 : ∀ (z : bw_A1) (rows : bw_A1) (sm : Int32) (th : Int32) (H : Heap) (locs : List Loc) (ls : Array Slot), jX6_payBack_21 z rows sm th = some (r, z', rows', sm', th') → bw_I G A s.heap (bw_mW cy a z rows asd sm buf bm th od om ow ca bo la pl to rd hh) H locs → lv_has ls 4 [(0, .ref (a 0))] → W p l e (bw_rm 3 66) s m [.ref (a 0), .int p1, .int p2, .int p3].toArray below meth c H locs 0 0 Q (F0 m 21 ls []) := by
    intro z rows sm th H locs ls h hI hl
    unfold jX6_payBack_21 at h
    refine lv_aload_n hx hb dX6_payBack_21 rfl (lv_at hl 0 rfl) ?_
    refine lv_iconst (v := 1) hx hb dX6_payBack_22 rfl ?_
    obtain ⟨r23, th_23, hc, h⟩ := bw_b2_e h
    refine bw_callV S hK hZ hI (mX6_fails l G cy g a z rows asd sm buf bm th od om ow ca bo la pl to rd hh 1 r23 th_23 hc) Y_X6_fails V_X6_fails l_X6_114 ⟨(Nat.le_of_ble_eq_true rfl), (Nat.le_of_ble_eq_true rfl)⟩ (q0 := 0) rfl rfl rfl (ws' := (bw_mW cy a z rows asd sm buf bm th_23 od om ow ca bo la pl to rd hh)) (bw_pS _) (bw_pS' _) rfl rfl hl.1 (rest := []) (st1 := [.int r23]) rfl rfl (Nat.le_of_ble_eq_true rfl) dX6_payBack_23 ⟨(Nat.le_of_ble_eq_true rfl), (Nat.le_of_ble_eq_true rfl)⟩ (fun H locs hI => ?_)
    exact bw_iret (d := (z, rows, sm, th_23)) (rr := (r, z', rows', sm', th')) S hr hlocks h (fun q : (bw_A1 × bw_A1 × Int32 × Int32) => (bw_mW cy a q.1 q.2.1 asd q.2.2.1 buf bm q.2.2.2 od om ow ca bo la pl to rd hh)) hI rfl dX6_payBack_26 hQ
  have j43 : ∀ (z : bw_A1) (rows : bw_A1) (sm : Int32) (th : Int32) (H : Heap) (locs : List Loc) (ls : Array Slot), jX6_payBack_43 z rows sm th = some (r, z', rows', sm', th') → bw_I G A s.heap (bw_mW cy a z rows asd sm buf bm th od om ow ca bo la pl to rd hh) H locs → lv_has ls 4 [(0, .ref (a 0))] → W p l e (bw_rm 3 66) s m [.ref (a 0), .int p1, .int p2, .int p3].toArray below meth c H locs 0 0 Q (F0 m 43 ls []) := by
    intro z rows sm th H locs ls h hI hl
    unfold jX6_payBack_43 at h
    refine lv_aload_n hx hb dX6_payBack_43 rfl (lv_at hl 0 rfl) ?_
    refine lv_iconst (v := 2) hx hb dX6_payBack_44 rfl ?_
    obtain ⟨r45, th_45, hc, h⟩ := bw_b2_e h
    refine bw_callV S hK hZ hI (mX6_fails l G cy g a z rows asd sm buf bm th od om ow ca bo la pl to rd hh 2 r45 th_45 hc) Y_X6_fails V_X6_fails l_X6_114 ⟨(Nat.le_of_ble_eq_true rfl), (Nat.le_of_ble_eq_true rfl)⟩ (q0 := 0) rfl rfl rfl (ws' := (bw_mW cy a z rows asd sm buf bm th_45 od om ow ca bo la pl to rd hh)) (bw_pS _) (bw_pS' _) rfl rfl hl.1 (rest := []) (st1 := [.int r45]) rfl rfl (Nat.le_of_ble_eq_true rfl) dX6_payBack_45 ⟨(Nat.le_of_ble_eq_true rfl), (Nat.le_of_ble_eq_true rfl)⟩ (fun H locs hI => ?_)
    exact bw_iret (d := (z, rows, sm, th_45)) (rr := (r, z', rows', sm', th')) S hr hlocks h (fun q : (bw_A1 × bw_A1 × Int32 × Int32) => (bw_mW cy a q.1 q.2.1 asd q.2.2.1 buf bm q.2.2.2 od om ow ca bo la pl to rd hh)) hI rfl dX6_payBack_48 hQ
  have j74 : ∀ (z : bw_A1) (rows : bw_A1) (sm : Int32) (th : Int32) (H : Heap) (locs : List Loc) (ls : Array Slot), jX6_payBack_74 z rows sm th = some (r, z', rows', sm', th') → bw_I G A s.heap (bw_mW cy a z rows asd sm buf bm th od om ow ca bo la pl to rd hh) H locs → lv_has ls 4 [(0, .ref (a 0))] → W p l e (bw_rm 3 66) s m [.ref (a 0), .int p1, .int p2, .int p3].toArray below meth c H locs 0 0 Q (F0 m 74 ls []) := by
    intro z rows sm th H locs ls h hI hl
    unfold jX6_payBack_74 at h
    refine lv_aload_n hx hb dX6_payBack_74 rfl (lv_at hl 0 rfl) ?_
    refine lv_iconst (v := 3) hx hb dX6_payBack_75 rfl ?_
    obtain ⟨r76, th_76, hc, h⟩ := bw_b2_e h
    refine bw_callV S hK hZ hI (mX6_fails l G cy g a z rows asd sm buf bm th od om ow ca bo la pl to rd hh 3 r76 th_76 hc) Y_X6_fails V_X6_fails l_X6_114 ⟨(Nat.le_of_ble_eq_true rfl), (Nat.le_of_ble_eq_true rfl)⟩ (q0 := 0) rfl rfl rfl (ws' := (bw_mW cy a z rows asd sm buf bm th_76 od om ow ca bo la pl to rd hh)) (bw_pS _) (bw_pS' _) rfl rfl hl.1 (rest := []) (st1 := [.int r76]) rfl rfl (Nat.le_of_ble_eq_true rfl) dX6_payBack_76 ⟨(Nat.le_of_ble_eq_true rfl), (Nat.le_of_ble_eq_true rfl)⟩ (fun H locs hI => ?_)
    exact bw_iret (d := (z, rows, sm, th_76)) (rr := (r, z', rows', sm', th')) S hr hlocks h (fun q : (bw_A1 × bw_A1 × Int32 × Int32) => (bw_mW cy a q.1 q.2.1 asd q.2.2.1 buf bm q.2.2.2 od om ow ca bo la pl to rd hh)) hI rfl dX6_payBack_79 hQ
  unfold fX6_payBack at h
  refine lv_aload_n hx hb dX6_payBack_0 rfl (lv_at hl 0 rfl) ?_
  refine lv_iconst (v := 0) hx hb dX6_payBack_1 rfl ?_
  refine bw_put S hK hI 0 6 (ws' := (bw_mW cy a z rows asd sm buf bm 0 od om ow ca bo la pl to rd hh)) tyX6 tyX6_ok nmX6 rfl rfl (by decide) i_X6 f_X6_28 rfl rfl rfl rfl (Nat.le_of_ble_eq_true rfl) rfl dX6_payBack_2 (fun H locs hI => ?_)
  refine lv_aload_n hx hb dX6_payBack_5 rfl (lv_at hl 0 rfl) ?_
  refine lv_iload_n hx hb dX6_payBack_6 rfl (lv_at hl 1 rfl) ?_
  obtain ⟨r7, hc, h⟩ := bw_b1_e h
  refine bw_callV S hK hZ hI (mX6_isProject l G cy g a z rows asd sm buf bm 0 od om ow ca bo la pl to rd hh p1 r7 hc) Y_X6_isProject V_X6_isProject l_X6_123 ⟨(Nat.le_of_ble_eq_true rfl), (Nat.le_of_ble_eq_true rfl)⟩ (q0 := 0) rfl rfl rfl (ws' := (bw_mW cy a z rows asd sm buf bm 0 od om ow ca bo la pl to rd hh)) (bw_pS _) (bw_pS' _) rfl rfl hl.1 (rest := []) (st1 := [.int r7]) rfl rfl (Nat.le_of_ble_eq_true rfl) dX6_payBack_7 ⟨(Nat.le_of_ble_eq_true rfl), (Nat.le_of_ble_eq_true rfl)⟩ (fun H locs hI => ?_)
  refine lv_if_eq (tgt := 21) hx hb dX6_payBack_10 (by decide) (fun c_10 => ?_) (fun c_10 => ?_)
  · rw [if_pos c_10] at h
    exact j21 z rows sm 0 _ _ _ h hI (lv_sub hl [0] rfl)
  rw [if_neg c_10] at h
  refine lv_aload_n hx hb dX6_payBack_13 rfl (lv_at hl 0 rfl) ?_
  refine lv_iload_n hx hb dX6_payBack_14 rfl (lv_at hl 2 rfl) ?_
  obtain ⟨r15, hc, h⟩ := bw_b1_e h
  refine bw_callV S hK hZ hI (mX6_isProject l G cy g a z rows asd sm buf bm 0 od om ow ca bo la pl to rd hh p2 r15 hc) Y_X6_isProject V_X6_isProject l_X6_123 ⟨(Nat.le_of_ble_eq_true rfl), (Nat.le_of_ble_eq_true rfl)⟩ (q0 := 0) rfl rfl rfl (ws' := (bw_mW cy a z rows asd sm buf bm 0 od om ow ca bo la pl to rd hh)) (bw_pS _) (bw_pS' _) rfl rfl hl.1 (rest := []) (st1 := [.int r15]) rfl rfl (Nat.le_of_ble_eq_true rfl) dX6_payBack_15 ⟨(Nat.le_of_ble_eq_true rfl), (Nat.le_of_ble_eq_true rfl)⟩ (fun H locs hI => ?_)
  refine lv_if_ne (tgt := 27) hx hb dX6_payBack_18 (by decide) (fun c_18 => ?_) (fun c_18 => ?_)
  · rw [if_neg c_18] at h
    refine lv_iload_n hx hb dX6_payBack_27 rfl (lv_at hl 2 rfl) ?_
    refine lv_iload_n hx hb dX6_payBack_28 rfl (lv_at hl 1 rfl) ?_
    refine lv_icmp_eq (tgt := 43) hx hb dX6_payBack_29 (by decide) (fun c_29 => ?_) (fun c_29 => ?_)
    · rw [if_pos c_29] at h
      exact j43 z rows sm 0 _ _ _ h hI (lv_sub hl [0] rfl)
    rw [if_neg c_29] at h
    refine lv_iload_n hx hb dX6_payBack_32 rfl (lv_at hl 3 rfl) ?_
    refine lv_iconst (v := 1) hx hb dX6_payBack_33 rfl ?_
    refine lv_sipush (v := 9999) hx hb dX6_payBack_34 (by decide) ?_
    obtain ⟨r37, hc, h⟩ := bw_b1_e h
    refine bw_callP S hK hZ hI (mX6_in l G cy g p3 1 9999 r37 hc) Y_X6_in V_X6_in l_X6_35 ⟨(Nat.le_of_ble_eq_true rfl), (Nat.le_of_ble_eq_true rfl)⟩ (rest := []) (st1 := [.int r37]) rfl hl.1 rfl rfl (Nat.le_of_ble_eq_true rfl) dX6_payBack_37 ⟨(Nat.le_of_ble_eq_true rfl), (Nat.le_of_ble_eq_true rfl)⟩ (fun H locs hI => ?_)
    refine lv_if_ne (tgt := 49) hx hb dX6_payBack_40 (by decide) (fun c_40 => ?_) (fun c_40 => ?_)
    · rw [if_neg c_40] at h
      refine lv_aload_n hx hb dX6_payBack_49 rfl (lv_at hl 0 rfl) ?_
      refine lv_iload_n hx hb dX6_payBack_50 rfl (lv_at hl 1 rfl) ?_
      refine lv_iload_n hx hb dX6_payBack_51 rfl (lv_at hl 2 rfl) ?_
      obtain ⟨r52, hc, h⟩ := bw_b1_e h
      refine bw_callV S hK hZ hI (mX6_owedOf l G cy g a z rows asd sm buf bm 0 od om ow ca bo la pl to rd hh p1 p2 r52 hc) Y_X6_owedOf V_X6_owedOf l_X6_135 ⟨(Nat.le_of_ble_eq_true rfl), (Nat.le_of_ble_eq_true rfl)⟩ (q0 := 0) rfl rfl rfl (ws' := (bw_mW cy a z rows asd sm buf bm 0 od om ow ca bo la pl to rd hh)) (bw_pS _) (bw_pS' _) rfl rfl hl.1 (rest := []) (st1 := [.int r52]) rfl rfl (Nat.le_of_ble_eq_true rfl) dX6_payBack_52 ⟨(Nat.le_of_ble_eq_true rfl), (Nat.le_of_ble_eq_true rfl)⟩ (fun H locs hI => ?_)
      refine lv_iload_n hx hb dX6_payBack_55 rfl (lv_at hl 3 rfl) ?_
      refine lv_icmp_lt (tgt := 74) hx hb dX6_payBack_56 (by decide) (fun c_56 => ?_) (fun c_56 => ?_)
      · rw [if_pos c_56] at h
        exact j74 z rows sm 0 _ _ _ h hI (lv_sub hl [0] rfl)
      rw [if_neg c_56] at h
      refine lv_aload_n hx hb dX6_payBack_59 rfl (lv_at hl 0 rfl) ?_
      refine bw_get S hK hI 0 0 rfl rfl (by decide) i_X6 f_X6_7 rfl dX6_payBack_60 ?_
      refine lv_iload_n hx hb dX6_payBack_63 rfl (lv_at hl 1 rfl) ?_
      obtain ⟨r64, hc, h⟩ := bw_b1_e h
      refine bw_callP S hK hZ hI (mX6_at l G cy g p1 r64 hc) Y_X6_at V_X6_at l_X6_39 ⟨(Nat.le_of_ble_eq_true rfl), (Nat.le_of_ble_eq_true rfl)⟩ (rest := [.ref (a 1)]) (st1 := [.int r64, .ref (a 1)]) rfl hl.1 rfl rfl (Nat.le_of_ble_eq_true rfl) dX6_payBack_64 ⟨(Nat.le_of_ble_eq_true rfl), (Nat.le_of_ble_eq_true rfl)⟩ (fun H locs hI => ?_)
      refine lv_iconst (v := 2) hx hb dX6_payBack_67 rfl ?_
      refine lv_iadd hx hb dX6_payBack_68 ?_
      obtain ⟨v69, hv, h⟩ := bw_b1_e h
      refine bw_iald hx hb hK hI 1 hv rfl dX6_payBack_69 ?_
      refine lv_iload_n hx hb dX6_payBack_70 rfl (lv_at hl 3 rfl) ?_
      refine lv_icmp_ge (tgt := 80) hx hb dX6_payBack_71 (by decide) (fun c_71 => ?_) (fun c_71 => ?_)
      · rw [if_pos c_71] at h
        refine lv_aload_n hx hb dX6_payBack_80 rfl (lv_at hl 0 rfl) ?_
        obtain ⟨rows_81, sm_81, hc, h⟩ := bw_b2_e h
        refine bw_callV S hK hZ hI (mX6_save l G cy g a z rows asd sm buf bm 0 od om ow ca bo la pl to rd hh rows_81 sm_81 hc) Y_X6_save V_X6_save l_X6_117 ⟨(Nat.le_of_ble_eq_true rfl), (Nat.le_of_ble_eq_true rfl)⟩ (q0 := 0) rfl rfl rfl (ws' := (bw_mW cy a z rows_81 asd sm_81 buf bm 0 od om ow ca bo la pl to rd hh)) (bw_pS _) (bw_pS' _) rfl rfl hl.1 (rest := []) (st1 := []) rfl rfl (Nat.le_of_ble_eq_true rfl) dX6_payBack_81 ⟨(Nat.le_of_ble_eq_true rfl), (Nat.le_of_ble_eq_true rfl)⟩ (fun H locs hI => ?_)
        refine lv_aload_n hx hb dX6_payBack_84 rfl (lv_at hl 0 rfl) ?_
        refine bw_get S hK hI 0 0 rfl rfl (by decide) i_X6 f_X6_7 rfl dX6_payBack_85 ?_
        refine lv_iload_n hx hb dX6_payBack_88 rfl (lv_at hl 1 rfl) ?_
        obtain ⟨r89, hc, h⟩ := bw_b1_e h
        refine bw_callP S hK hZ hI (mX6_at l G cy g p1 r89 hc) Y_X6_at V_X6_at l_X6_39 ⟨(Nat.le_of_ble_eq_true rfl), (Nat.le_of_ble_eq_true rfl)⟩ (rest := [.ref (a 1)]) (st1 := [.int r89, .ref (a 1)]) rfl hl.1 rfl rfl (Nat.le_of_ble_eq_true rfl) dX6_payBack_89 ⟨(Nat.le_of_ble_eq_true rfl), (Nat.le_of_ble_eq_true rfl)⟩ (fun H locs hI => ?_)
        refine lv_iconst (v := 2) hx hb dX6_payBack_92 rfl ?_
        refine lv_iadd hx hb dX6_payBack_93 ?_
        refine lv_dup2_11 hx hb dX6_payBack_94 rfl rfl ?_
        obtain ⟨v95, hv, h⟩ := bw_b1_e h
        refine bw_iald hx hb hK hI 1 hv rfl dX6_payBack_95 ?_
        refine lv_iload_n hx hb dX6_payBack_96 rfl (lv_at hl 3 rfl) ?_
        refine lv_isub hx hb dX6_payBack_97 ?_
        obtain ⟨z_98, hv, h⟩ := bw_b1_e h
        refine bw_iast hx hb hK hI 1 (ws' := (bw_mW cy a z_98 rows_81 asd sm_81 buf bm 0 od om ow ca bo la pl to rd hh)) hv rfl rfl dX6_payBack_98 (fun H locs hI => ?_)
        refine lv_aload_n hx hb dX6_payBack_99 rfl (lv_at hl 0 rfl) ?_
        refine bw_get S hK hI 0 0 rfl rfl (by decide) i_X6 f_X6_7 rfl dX6_payBack_100 ?_
        refine lv_iload_n hx hb dX6_payBack_103 rfl (lv_at hl 2 rfl) ?_
        obtain ⟨r104, hc, h⟩ := bw_b1_e h
        refine bw_callP S hK hZ hI (mX6_at l G cy g p2 r104 hc) Y_X6_at V_X6_at l_X6_39 ⟨(Nat.le_of_ble_eq_true rfl), (Nat.le_of_ble_eq_true rfl)⟩ (rest := [.ref (a 1)]) (st1 := [.int r104, .ref (a 1)]) rfl hl.1 rfl rfl (Nat.le_of_ble_eq_true rfl) dX6_payBack_104 ⟨(Nat.le_of_ble_eq_true rfl), (Nat.le_of_ble_eq_true rfl)⟩ (fun H locs hI => ?_)
        refine lv_iconst (v := 2) hx hb dX6_payBack_107 rfl ?_
        refine lv_iadd hx hb dX6_payBack_108 ?_
        refine lv_dup2_11 hx hb dX6_payBack_109 rfl rfl ?_
        obtain ⟨v110, hv, h⟩ := bw_b1_e h
        refine bw_iald hx hb hK hI 1 hv rfl dX6_payBack_110 ?_
        refine lv_iload_n hx hb dX6_payBack_111 rfl (lv_at hl 3 rfl) ?_
        refine lv_iadd hx hb dX6_payBack_112 ?_
        obtain ⟨z_113, hv, h⟩ := bw_b1_e h
        refine bw_iast hx hb hK hI 1 (ws' := (bw_mW cy a z_113 rows_81 asd sm_81 buf bm 0 od om ow ca bo la pl to rd hh)) hv rfl rfl dX6_payBack_113 (fun H locs hI => ?_)
        refine lv_aload_n hx hb dX6_payBack_114 rfl (lv_at hl 0 rfl) ?_
        refine lv_aload_n hx hb dX6_payBack_115 rfl (lv_at hl 0 rfl) ?_
        refine lv_iload_n hx hb dX6_payBack_116 rfl (lv_at hl 2 rfl) ?_
        refine lv_iload_n hx hb dX6_payBack_117 rfl (lv_at hl 1 rfl) ?_
        obtain ⟨r118, hc, h⟩ := bw_b1_e h
        refine bw_callV S hK hZ hI (mX6_placeOf l G cy g a z_113 rows_81 asd sm_81 buf bm 0 od om ow ca bo la pl to rd hh p2 p1 r118 hc) Y_X6_placeOf V_X6_placeOf l_X6_53 ⟨(Nat.le_of_ble_eq_true rfl), (Nat.le_of_ble_eq_true rfl)⟩ (q0 := 0) rfl rfl rfl (ws' := (bw_mW cy a z_113 rows_81 asd sm_81 buf bm 0 od om ow ca bo la pl to rd hh)) (bw_pS _) (bw_pS' _) rfl rfl hl.1 (rest := [.ref (a 0)]) (st1 := [.int r118, .ref (a 0)]) rfl rfl (Nat.le_of_ble_eq_true rfl) dX6_payBack_118 ⟨(Nat.le_of_ble_eq_true rfl), (Nat.le_of_ble_eq_true rfl)⟩ (fun H locs hI => ?_)
        refine lv_iload_n hx hb dX6_payBack_121 rfl (lv_at hl 3 rfl) ?_
        obtain ⟨z_122, hc, h⟩ := bw_b1_e h
        refine bw_callV S hK hZ hI (mX6_cutLoan l G cy g a z_113 rows_81 asd sm_81 buf bm 0 od om ow ca bo la pl to rd hh r118 p3 z_122 hc) Y_X6_cutLoan V_X6_cutLoan l_X6_64 ⟨(Nat.le_of_ble_eq_true rfl), (Nat.le_of_ble_eq_true rfl)⟩ (q0 := 0) rfl rfl rfl (ws' := (bw_mW cy a z_122 rows_81 asd sm_81 buf bm 0 od om ow ca bo la pl to rd hh)) (bw_pS _) (bw_pS' _) rfl rfl hl.1 (rest := []) (st1 := []) rfl rfl (Nat.le_of_ble_eq_true rfl) dX6_payBack_122 ⟨(Nat.le_of_ble_eq_true rfl), (Nat.le_of_ble_eq_true rfl)⟩ (fun H locs hI => ?_)
        refine lv_aload_n hx hb dX6_payBack_125 rfl (lv_at hl 0 rfl) ?_
        refine lv_iload_n hx hb dX6_payBack_126 rfl (lv_at hl 1 rfl) ?_
        refine lv_iload_n hx hb dX6_payBack_127 rfl (lv_at hl 2 rfl) ?_
        obtain ⟨r128, hc, h⟩ := bw_b1_e h
        refine bw_callV S hK hZ hI (mX6_owedOf l G cy g a z_122 rows_81 asd sm_81 buf bm 0 od om ow ca bo la pl to rd hh p1 p2 r128 hc) Y_X6_owedOf V_X6_owedOf l_X6_135 ⟨(Nat.le_of_ble_eq_true rfl), (Nat.le_of_ble_eq_true rfl)⟩ (q0 := 0) rfl rfl rfl (ws' := (bw_mW cy a z_122 rows_81 asd sm_81 buf bm 0 od om ow ca bo la pl to rd hh)) (bw_pS _) (bw_pS' _) rfl rfl hl.1 (rest := []) (st1 := [.int r128]) rfl rfl (Nat.le_of_ble_eq_true rfl) dX6_payBack_128 ⟨(Nat.le_of_ble_eq_true rfl), (Nat.le_of_ble_eq_true rfl)⟩ (fun H locs hI => ?_)
        exact bw_iret (d := (z_122, rows_81, sm_81, 0)) (rr := (r, z', rows', sm', th')) S hr hlocks h (fun q : (bw_A1 × bw_A1 × Int32 × Int32) => (bw_mW cy a q.1 q.2.1 asd q.2.2.1 buf bm q.2.2.2 od om ow ca bo la pl to rd hh)) hI rfl dX6_payBack_131 hQ
      rw [if_neg c_71] at h
      exact j74 z rows sm 0 _ _ _ h hI (lv_sub hl [0] rfl)
    rw [if_pos c_40] at h
    exact j43 z rows sm 0 _ _ _ h hI (lv_sub hl [0] rfl)
  rw [if_pos c_18] at h
  exact j21 z rows sm 0 _ _ _ h hI (lv_sub hl [0] rfl)
set_option maxHeartbeats 4000000 in
set_option maxRecDepth 100000 in
theorem mX6_writeOff (l : Launch) (G : va_G) (cy : Nat → ClassId) (g : Nat) (a : Nat → Nat) (z : bw_A1) (rows : bw_A1) (asd : bw_A1) (sm : Int32) (buf : bw_A1) (bm : Int32) (th : Int32) (od : bw_A1) (om : Int32) (ow : Int32) (ca : Int32) (bo : Int32) (la : Int32) (pl : Int32) (to : Int32) (rd : bw_A1) (hh : Int64) (p1 : Int32) (r : Int32) (z' : bw_A1) (h : fX6_writeOff z p1 = some (r, z')) : bw_M l yX6_writeOff cX6_writeOff 7 (some .int) 2 42 G cy g [.ref (a 0), .int p1] (bw_mW cy a z rows asd sm buf bm th od om ow ca bo la pl to rd hh) (some (.int r)) (bw_mW cy a z' rows asd sm buf bm th od om ow ca bo la pl to rd hh) := by
  refine bw_ofW (by decide +kernel) RX6 rfl (Nat.le_of_ble_eq_true rfl) ?_
  intro p e s m below meth c ls S hr hlocks hK hZ hI hl
  have hx := S.1
  have hb := S.2.1
  have hown := S.2.2.2.1
  have hts := S.2.2.2.2
  generalize va_A _ s.heap.size = A at hI hZ ⊢
  generalize hQ : MQ below _ _ s 0 0 A = Q
  have hl : lv_has ls 7 [(0, .ref (a 0)), (1, .int p1)] := hl
  have j115 : ∀ (z : bw_A1) (x1 : Int32) (x2 : Int32) (x3 : Int32) (k4 : bw_A1 → Int32 → Int32 → Option (Int32 × bw_A1)) (hk4 : ∀ (H : Heap) (locs : List Loc) (ls : Array Slot) (z_ : bw_A1) (x2_ : Int32) (x3_ : Int32), k4 z_ x2_ x3_ = some (r, z') → bw_I G A s.heap (bw_mW cy a z_ rows asd sm buf bm th od om ow ca bo la pl to rd hh) H locs → lv_has ls 7 [(0, .ref (a 0)), (1, .int x1), (2, .int x2_), (3, .int x3_)] → W p l e (bw_rm 2 42) s m [.ref (a 0), .int p1].toArray below meth c H locs 0 0 Q (F0 m 4 ls [])) (H : Heap) (locs : List Loc) (ls : Array Slot), jX6_writeOff_115 k4 z x1 x2 x3 = some (r, z') → bw_I G A s.heap (bw_mW cy a z rows asd sm buf bm th od om ow ca bo la pl to rd hh) H locs → lv_has ls 7 [(0, .ref (a 0)), (1, .int x1), (2, .int x2), (3, .int x3)] → W p l e (bw_rm 2 42) s m [.ref (a 0), .int p1].toArray below meth c H locs 0 0 Q (F0 m 115 ls []) := by
    intro z x1 x2 x3 k4 hk4 H locs ls h hI hl
    unfold jX6_writeOff_115 at h
    refine lv_goto (tgt := 4) hx hb dX6_writeOff_115 (by decide) ?_
    exact hk4 _ _ _ z x2 x3 h hI (lv_sub hl [0,1,2,3] rfl)
  have j63 : ∀ (z : bw_A1) (x1 : Int32) (x2 : Int32) (x3 : Int32) (x4 : Int32) (x5 : Int32) (x6 : Int32) (k4 : bw_A1 → Int32 → Int32 → Option (Int32 × bw_A1)) (hk4 : ∀ (H : Heap) (locs : List Loc) (ls : Array Slot) (z_ : bw_A1) (x2_ : Int32) (x3_ : Int32), k4 z_ x2_ x3_ = some (r, z') → bw_I G A s.heap (bw_mW cy a z_ rows asd sm buf bm th od om ow ca bo la pl to rd hh) H locs → lv_has ls 7 [(0, .ref (a 0)), (1, .int x1), (2, .int x2_), (3, .int x3_)] → W p l e (bw_rm 2 42) s m [.ref (a 0), .int p1].toArray below meth c H locs 0 0 Q (F0 m 4 ls [])) (H : Heap) (locs : List Loc) (ls : Array Slot), jX6_writeOff_63 k4 z x1 x2 x3 x4 x5 x6 = some (r, z') → bw_I G A s.heap (bw_mW cy a z rows asd sm buf bm th od om ow ca bo la pl to rd hh) H locs → lv_has ls 7 [(0, .ref (a 0)), (1, .int x1), (2, .int x2), (3, .int x3), (4, .int x4), (5, .int x5), (6, .int x6)] → W p l e (bw_rm 2 42) s m [.ref (a 0), .int p1].toArray below meth c H locs 0 0 Q (F0 m 63 ls []) := by
    intro z x1 x2 x3 x4 x5 x6 k4 hk4 H locs ls h hI hl
    unfold jX6_writeOff_63 at h
    refine lv_aload_n hx hb dX6_writeOff_63 rfl (lv_at hl 0 rfl) ?_
    refine bw_get S hK hI 0 0 rfl rfl (by decide) i_X6 f_X6_7 rfl dX6_writeOff_64 ?_
    refine lv_iload hx hb dX6_writeOff_67 (lv_at hl 4 rfl) ?_
    obtain ⟨r69, hc, h⟩ := bw_b1_e h
    refine bw_callP S hK hZ hI (mX6_at l G cy g x4 r69 hc) Y_X6_at V_X6_at l_X6_39 ⟨(Nat.le_of_ble_eq_true rfl), (Nat.le_of_ble_eq_true rfl)⟩ (rest := [.ref (a 1)]) (st1 := [.int r69, .ref (a 1)]) rfl hl.1 rfl rfl (Nat.le_of_ble_eq_true rfl) dX6_writeOff_69 ⟨(Nat.le_of_ble_eq_true rfl), (Nat.le_of_ble_eq_true rfl)⟩ (fun H locs hI => ?_)
    refine lv_bipush (v := 9) hx hb dX6_writeOff_72 (by decide) ?_
    refine lv_iadd hx hb dX6_writeOff_74 ?_
    refine lv_dup2_11 hx hb dX6_writeOff_75 rfl rfl ?_
    obtain ⟨v76, hv, h⟩ := bw_b1_e h
    refine bw_iald hx hb hK hI 1 hv rfl dX6_writeOff_76 ?_
    refine lv_iload hx hb dX6_writeOff_77 (lv_at hl 6 rfl) ?_
    refine lv_iadd hx hb dX6_writeOff_79 ?_
    obtain ⟨z_80, hv, h⟩ := bw_b1_e h
    refine bw_iast hx hb hK hI 1 (ws' := (bw_mW cy a z_80 rows asd sm buf bm th od om ow ca bo la pl to rd hh)) hv rfl rfl dX6_writeOff_80 (fun H locs hI => ?_)
    refine lv_aload_n hx hb dX6_writeOff_81 rfl (lv_at hl 0 rfl) ?_
    refine bw_get S hK hI 0 0 rfl rfl (by decide) i_X6 f_X6_7 rfl dX6_writeOff_82 ?_
    refine lv_iload hx hb dX6_writeOff_85 (lv_at hl 5 rfl) ?_
    obtain ⟨r87, hc, h⟩ := bw_b1_e h
    refine bw_callP S hK hZ hI (mX6_at l G cy g x5 r87 hc) Y_X6_at V_X6_at l_X6_39 ⟨(Nat.le_of_ble_eq_true rfl), (Nat.le_of_ble_eq_true rfl)⟩ (rest := [.ref (a 1)]) (st1 := [.int r87, .ref (a 1)]) rfl hl.1 rfl rfl (Nat.le_of_ble_eq_true rfl) dX6_writeOff_87 ⟨(Nat.le_of_ble_eq_true rfl), (Nat.le_of_ble_eq_true rfl)⟩ (fun H locs hI => ?_)
    refine lv_bipush (v := 8) hx hb dX6_writeOff_90 (by decide) ?_
    refine lv_iadd hx hb dX6_writeOff_92 ?_
    refine lv_dup2_11 hx hb dX6_writeOff_93 rfl rfl ?_
    obtain ⟨v94, hv, h⟩ := bw_b1_e h
    refine bw_iald hx hb hK hI 1 hv rfl dX6_writeOff_94 ?_
    refine lv_iload hx hb dX6_writeOff_95 (lv_at hl 6 rfl) ?_
    refine lv_iadd hx hb dX6_writeOff_97 ?_
    obtain ⟨z_98, hv, h⟩ := bw_b1_e h
    refine bw_iast hx hb hK hI 1 (ws' := (bw_mW cy a z_98 rows asd sm buf bm th od om ow ca bo la pl to rd hh)) hv rfl rfl dX6_writeOff_98 (fun H locs hI => ?_)
    refine lv_iload_n hx hb dX6_writeOff_99 rfl (lv_at hl 2 rfl) ?_
    refine lv_iload hx hb dX6_writeOff_100 (lv_at hl 6 rfl) ?_
    refine lv_iadd hx hb dX6_writeOff_102 ?_
    refine lv_topi (fun x2_103 e_103 => ?_)
    have h := bw_let_e h e_103
    clear e_103
    refine lv_istore_n (lv' := [(2, .int x2_103), (0, .ref (a 0)), (1, .int x1), (3, .int x3), (4, .int x4), (5, .int x5), (6, .int x6)]) hx hb dX6_writeOff_103 rfl hl (by decide) rfl (fun ls hl => ?_)
    refine lv_aload_n hx hb dX6_writeOff_104 rfl (lv_at hl 1 rfl) ?_
    refine lv_iload_n hx hb dX6_writeOff_105 rfl (lv_at hl 3 rfl) ?_
    obtain ⟨z_106, hc, h⟩ := bw_b1_e h
    refine bw_callV S hK hZ hI (mX6_dropLoan l G cy g a z_98 rows asd sm buf bm th od om ow ca bo la pl to rd hh x3 z_106 hc) Y_X6_dropLoan V_X6_dropLoan l_X6_57 ⟨(Nat.le_of_ble_eq_true rfl), (Nat.le_of_ble_eq_true rfl)⟩ (q0 := 0) rfl rfl rfl (ws' := (bw_mW cy a z_106 rows asd sm buf bm th od om ow ca bo la pl to rd hh)) (bw_pS _) (bw_pS' _) rfl rfl hl.1 (rest := []) (st1 := []) rfl rfl (Nat.le_of_ble_eq_true rfl) dX6_writeOff_106 ⟨(Nat.le_of_ble_eq_true rfl), (Nat.le_of_ble_eq_true rfl)⟩ (fun H locs hI => ?_)
    refine lv_goto (tgt := 115) hx hb dX6_writeOff_109 (by decide) ?_
    exact j115 z_106 x1 x2_103 x3 k4 hk4 _ _ _ h hI (lv_sub hl [1,2,0,3] rfl)
  have l4 : ∀ (x1 : Int32) (n : Nat) (H : Heap) (locs : List Loc) (ls : Array Slot) (z : bw_A1) (x2 : Int32) (x3 : Int32), lX6_writeOff_4 x1 n z x2 x3 = some (r, z') → bw_I G A s.heap (bw_mW cy a z rows asd sm buf bm th od om ow ca bo la pl to rd hh) H locs → lv_has ls 7 [(0, .ref (a 0)), (1, .int x1), (2, .int x2), (3, .int x3)] → W p l e (bw_rm 2 42) s m [.ref (a 0), .int p1].toArray below meth c H locs 0 0 Q (F0 m 4 ls []) := by
    intro x1 n
    induction n with
    | zero => intro H locs ls z x2 x3 h; exact bw_none h
    | succ n ih =>
      intro H locs ls z x2 x3 h hI hl
      have h : bX6_writeOff_4  (lX6_writeOff_4 x1 n) x1 z x2 x3 = some (r, z') := h
      unfold bX6_writeOff_4 at h
      refine lv_iload_n hx hb dX6_writeOff_4 rfl (lv_at hl 3 rfl) ?_
      refine lv_aload_n hx hb dX6_writeOff_5 rfl (lv_at hl 0 rfl) ?_
      refine bw_get S hK hI 0 0 rfl rfl (by decide) i_X6 f_X6_7 rfl dX6_writeOff_6 ?_
      refine lv_iconst (v := 1) hx hb dX6_writeOff_9 rfl ?_
      obtain ⟨v10, hv, h⟩ := bw_b1_e h
      refine bw_iald hx hb hK hI 1 hv rfl dX6_writeOff_10 ?_
      refine lv_icmp_ge (tgt := 118) hx hb dX6_writeOff_11 (by decide) (fun c_11 => ?_) (fun c_11 => ?_)
      · rw [if_pos c_11] at h
        refine lv_iload_n hx hb dX6_writeOff_118 rfl (lv_at hl 2 rfl) ?_
        exact bw_iret (d := z) (rr := (r, z')) S hr hlocks h (fun q : bw_A1 => (bw_mW cy a q rows asd sm buf bm th od om ow ca bo la pl to rd hh)) hI rfl dX6_writeOff_119 hQ
      rw [if_neg c_11] at h
      refine lv_aload_n hx hb dX6_writeOff_14 rfl (lv_at hl 0 rfl) ?_
      refine bw_get S hK hI 0 0 rfl rfl (by decide) i_X6 f_X6_7 rfl dX6_writeOff_15 ?_
      refine lv_iload_n hx hb dX6_writeOff_18 rfl (lv_at hl 3 rfl) ?_
      obtain ⟨r19, hc, h⟩ := bw_b1_e h
      refine bw_callP S hK hZ hI (mX6_loanAt l G cy g x3 r19 hc) Y_X6_loanAt V_X6_loanAt l_X6_50 ⟨(Nat.le_of_ble_eq_true rfl), (Nat.le_of_ble_eq_true rfl)⟩ (rest := [.ref (a 1)]) (st1 := [.int r19, .ref (a 1)]) rfl hl.1 rfl rfl (Nat.le_of_ble_eq_true rfl) dX6_writeOff_19 ⟨(Nat.le_of_ble_eq_true rfl), (Nat.le_of_ble_eq_true rfl)⟩ (fun H locs hI => ?_)
      obtain ⟨v22, hv, h⟩ := bw_b1_e h
      refine bw_iald hx hb hK hI 1 hv rfl dX6_writeOff_22 ?_
      refine lv_istore (lv' := [(4, .int v22), (0, .ref (a 0)), (1, .int x1), (2, .int x2), (3, .int x3)]) hx hb dX6_writeOff_23 hl (by decide) rfl (fun ls hl => ?_)
      refine lv_aload_n hx hb dX6_writeOff_25 rfl (lv_at hl 1 rfl) ?_
      refine bw_get S hK hI 0 0 rfl rfl (by decide) i_X6 f_X6_7 rfl dX6_writeOff_26 ?_
      refine lv_iload_n hx hb dX6_writeOff_29 rfl (lv_at hl 4 rfl) ?_
      obtain ⟨r30, hc, h⟩ := bw_b1_e h
      refine bw_callP S hK hZ hI (mX6_loanAt l G cy g x3 r30 hc) Y_X6_loanAt V_X6_loanAt l_X6_50 ⟨(Nat.le_of_ble_eq_true rfl), (Nat.le_of_ble_eq_true rfl)⟩ (rest := [.ref (a 1)]) (st1 := [.int r30, .ref (a 1)]) rfl hl.1 rfl rfl (Nat.le_of_ble_eq_true rfl) dX6_writeOff_30 ⟨(Nat.le_of_ble_eq_true rfl), (Nat.le_of_ble_eq_true rfl)⟩ (fun H locs hI => ?_)
      refine lv_iconst (v := 1) hx hb dX6_writeOff_33 rfl ?_
      refine lv_iadd hx hb dX6_writeOff_34 ?_
      obtain ⟨v35, hv, h⟩ := bw_b1_e h
      refine bw_iald hx hb hK hI 1 hv rfl dX6_writeOff_35 ?_
      refine lv_istore (lv' := [(5, .int v35), (4, .int v22), (0, .ref (a 0)), (1, .int x1), (2, .int x2), (3, .int x3)]) hx hb dX6_writeOff_36 hl (by decide) rfl (fun ls hl => ?_)
      refine lv_aload_n hx hb dX6_writeOff_38 rfl (lv_at hl 2 rfl) ?_
      refine bw_get S hK hI 0 0 rfl rfl (by decide) i_X6 f_X6_7 rfl dX6_writeOff_39 ?_
      refine lv_iload_n hx hb dX6_writeOff_42 rfl (lv_at hl 5 rfl) ?_
      obtain ⟨r43, hc, h⟩ := bw_b1_e h
      refine bw_callP S hK hZ hI (mX6_loanAt l G cy g x3 r43 hc) Y_X6_loanAt V_X6_loanAt l_X6_50 ⟨(Nat.le_of_ble_eq_true rfl), (Nat.le_of_ble_eq_true rfl)⟩ (rest := [.ref (a 1)]) (st1 := [.int r43, .ref (a 1)]) rfl hl.1 rfl rfl (Nat.le_of_ble_eq_true rfl) dX6_writeOff_43 ⟨(Nat.le_of_ble_eq_true rfl), (Nat.le_of_ble_eq_true rfl)⟩ (fun H locs hI => ?_)
      refine lv_iconst (v := 2) hx hb dX6_writeOff_46 rfl ?_
      refine lv_iadd hx hb dX6_writeOff_47 ?_
      obtain ⟨v48, hv, h⟩ := bw_b1_e h
      refine bw_iald hx hb hK hI 1 hv rfl dX6_writeOff_48 ?_
      refine lv_istore (lv' := [(6, .int v48), (5, .int v35), (4, .int v22), (0, .ref (a 0)), (1, .int x1), (2, .int x2), (3, .int x3)]) hx hb dX6_writeOff_49 hl (by decide) rfl (fun ls hl => ?_)
      refine lv_iload hx hb dX6_writeOff_51 (lv_at hl 2 rfl) ?_
      refine lv_iload_n hx hb dX6_writeOff_53 rfl (lv_at hl 4 rfl) ?_
      refine lv_icmp_eq (tgt := 63) hx hb dX6_writeOff_54 (by decide) (fun c_54 => ?_) (fun c_54 => ?_)
      · rw [if_pos c_54] at h
        exact j63 z x1 x2 x3 v22 v35 v48 (lX6_writeOff_4 x1 n) ih _ _ _ h hI (lv_sub hl [3,4,5,6,2,1,0] rfl)
      rw [if_neg c_54] at h
      refine lv_iload hx hb dX6_writeOff_57 (lv_at hl 1 rfl) ?_
      refine lv_iload_n hx hb dX6_writeOff_59 rfl (lv_at hl 4 rfl) ?_
      refine lv_icmp_ne (tgt := 112) hx hb dX6_writeOff_60 (by decide) (fun c_60 => ?_) (fun c_60 => ?_)
      · rw [if_neg c_60] at h
        obtain ⟨x3_112, e_112⟩ : ∃ y : Int32, y = x3 + 1 := ⟨_, rfl⟩
        have h := bw_let_e h e_112
        refine lv_iinc (v := x3_112) (lv' := [(3, .int x3_112), (6, .int v48), (5, .int v35), (4, .int v22), (0, .ref (a 0)), (1, .int x1), (2, .int x2)]) hx hb dX6_writeOff_112 hl (k := 6) rfl (by rw [e_112]; rfl) (by decide) rfl (fun ls hl => ?_)
        clear e_112
        exact j115 z x1 x2 x3_112 (lX6_writeOff_4 x1 n) ih _ _ _ h hI (lv_sub hl [4,5,6,0] rfl)
      rw [if_pos c_60] at h
      exact j63 z x1 x2 x3 v22 v35 v48 (lX6_writeOff_4 x1 n) ih _ _ _ h hI (lv_sub hl [3,4,5,6,2,1,0] rfl)
  unfold fX6_writeOff at h
  refine lv_iconst (v := 0) hx hb dX6_writeOff_0 rfl ?_
  refine lv_istore_n (lv' := [(2, .int 0), (0, .ref (a 0)), (1, .int p1)]) hx hb dX6_writeOff_1 rfl hl (by decide) rfl (fun ls hl => ?_)
  refine lv_iconst (v := 0) hx hb dX6_writeOff_2 rfl ?_
  refine lv_istore_n (lv' := [(3, .int 0), (2, .int 0), (0, .ref (a 0)), (1, .int p1)]) hx hb dX6_writeOff_3 rfl hl (by decide) rfl (fun ls hl => ?_)
  exact l4 p1 bw_fu _ _ _ z 0 0 h hI (lv_sub hl [2,3,1,0] rfl)
set_option maxHeartbeats 4000000 in
set_option maxRecDepth 100000 in
theorem mX6_close (l : Launch) (G : va_G) (cy : Nat → ClassId) (g : Nat) (a : Nat → Nat) (z : bw_A1) (rows : bw_A1) (asd : bw_A1) (sm : Int32) (buf : bw_A1) (bm : Int32) (th : Int32) (od : bw_A1) (om : Int32) (ow : Int32) (ca : Int32) (bo : Int32) (la : Int32) (pl : Int32) (to : Int32) (rd : bw_A1) (hh : Int64) (p1 : Int32) (r : Int32) (z' : bw_A1) (rows' : bw_A1) (sm' : Int32) (th' : Int32) (h : fX6_close z rows sm th p1 = some (r, z', rows', sm', th')) : bw_M l yX6_close cX6_close 3 (some .int) 4 90 G cy g [.ref (a 0), .int p1] (bw_mW cy a z rows asd sm buf bm th od om ow ca bo la pl to rd hh) (some (.int r)) (bw_mW cy a z' rows' asd sm' buf bm th' od om ow ca bo la pl to rd hh) := by
  refine bw_ofW (by decide +kernel) RX6 rfl (Nat.le_of_ble_eq_true rfl) ?_
  intro p e s m below meth c ls S hr hlocks hK hZ hI hl
  have hx := S.1
  have hb := S.2.1
  have hown := S.2.2.2.1
  have hts := S.2.2.2.2
  generalize va_A _ s.heap.size = A at hI hZ ⊢
  generalize hQ : MQ below _ _ s 0 0 A = Q
  have hl : lv_has ls 3 [(0, .ref (a 0)), (1, .int p1)] := hl
  have j35 : ∀ (z : bw_A1) (rows : bw_A1) (sm : Int32) (th : Int32) (H : Heap) (locs : List Loc) (ls : Array Slot), jX6_close_35 z rows sm th = some (r, z', rows', sm', th') → bw_I G A s.heap (bw_mW cy a z rows asd sm buf bm th od om ow ca bo la pl to rd hh) H locs → lv_has ls 3 [(0, .ref (a 0))] → W p l e (bw_rm 4 90) s m [.ref (a 0), .int p1].toArray below meth c H locs 0 0 Q (F0 m 35 ls []) := by
    intro z rows sm th H locs ls h hI hl
    unfold jX6_close_35 at h
    refine lv_aload_n hx hb dX6_close_35 rfl (lv_at hl 0 rfl) ?_
    refine lv_iconst (v := 2) hx hb dX6_close_36 rfl ?_
    obtain ⟨r37, th_37, hc, h⟩ := bw_b2_e h
    refine bw_callV S hK hZ hI (mX6_fails l G cy g a z rows asd sm buf bm th od om ow ca bo la pl to rd hh 2 r37 th_37 hc) Y_X6_fails V_X6_fails l_X6_114 ⟨(Nat.le_of_ble_eq_true rfl), (Nat.le_of_ble_eq_true rfl)⟩ (q0 := 0) rfl rfl rfl (ws' := (bw_mW cy a z rows asd sm buf bm th_37 od om ow ca bo la pl to rd hh)) (bw_pS _) (bw_pS' _) rfl rfl hl.1 (rest := []) (st1 := [.int r37]) rfl rfl (Nat.le_of_ble_eq_true rfl) dX6_close_37 ⟨(Nat.le_of_ble_eq_true rfl), (Nat.le_of_ble_eq_true rfl)⟩ (fun H locs hI => ?_)
    exact bw_iret (d := (z, rows, sm, th_37)) (rr := (r, z', rows', sm', th')) S hr hlocks h (fun q : (bw_A1 × bw_A1 × Int32 × Int32) => (bw_mW cy a q.1 q.2.1 asd q.2.2.1 buf bm q.2.2.2 od om ow ca bo la pl to rd hh)) hI rfl dX6_close_40 hQ
  unfold fX6_close at h
  refine lv_aload_n hx hb dX6_close_0 rfl (lv_at hl 0 rfl) ?_
  refine lv_iconst (v := 0) hx hb dX6_close_1 rfl ?_
  refine bw_put S hK hI 0 6 (ws' := (bw_mW cy a z rows asd sm buf bm 0 od om ow ca bo la pl to rd hh)) tyX6 tyX6_ok nmX6 rfl rfl (by decide) i_X6 f_X6_28 rfl rfl rfl rfl (Nat.le_of_ble_eq_true rfl) rfl dX6_close_2 (fun H locs hI => ?_)
  refine lv_aload_n hx hb dX6_close_5 rfl (lv_at hl 0 rfl) ?_
  refine lv_iload_n hx hb dX6_close_6 rfl (lv_at hl 1 rfl) ?_
  obtain ⟨r7, hc, h⟩ := bw_b1_e h
  refine bw_callV S hK hZ hI (mX6_isProject l G cy g a z rows asd sm buf bm 0 od om ow ca bo la pl to rd hh p1 r7 hc) Y_X6_isProject V_X6_isProject l_X6_123 ⟨(Nat.le_of_ble_eq_true rfl), (Nat.le_of_ble_eq_true rfl)⟩ (q0 := 0) rfl rfl rfl (ws' := (bw_mW cy a z rows asd sm buf bm 0 od om ow ca bo la pl to rd hh)) (bw_pS _) (bw_pS' _) rfl rfl hl.1 (rest := []) (st1 := [.int r7]) rfl rfl (Nat.le_of_ble_eq_true rfl) dX6_close_7 ⟨(Nat.le_of_ble_eq_true rfl), (Nat.le_of_ble_eq_true rfl)⟩ (fun H locs hI => ?_)
  refine lv_if_ne (tgt := 19) hx hb dX6_close_10 (by decide) (fun c_10 => ?_) (fun c_10 => ?_)
  · rw [if_neg c_10] at h
    refine lv_aload_n hx hb dX6_close_19 rfl (lv_at hl 0 rfl) ?_
    refine lv_iload_n hx hb dX6_close_20 rfl (lv_at hl 1 rfl) ?_
    obtain ⟨r21, hc, h⟩ := bw_b1_e h
    refine bw_callV S hK hZ hI (mX6_isOpen l G cy g a z rows asd sm buf bm 0 od om ow ca bo la pl to rd hh p1 r21 hc) Y_X6_isOpen V_X6_isOpen l_X6_43 ⟨(Nat.le_of_ble_eq_true rfl), (Nat.le_of_ble_eq_true rfl)⟩ (q0 := 0) rfl rfl rfl (ws' := (bw_mW cy a z rows asd sm buf bm 0 od om ow ca bo la pl to rd hh)) (bw_pS _) (bw_pS' _) rfl rfl hl.1 (rest := []) (st1 := [.int r21]) rfl rfl (Nat.le_of_ble_eq_true rfl) dX6_close_21 ⟨(Nat.le_of_ble_eq_true rfl), (Nat.le_of_ble_eq_true rfl)⟩ (fun H locs hI => ?_)
    refine lv_if_eq (tgt := 35) hx hb dX6_close_24 (by decide) (fun c_24 => ?_) (fun c_24 => ?_)
    · rw [if_pos c_24] at h
      exact j35 z rows sm 0 _ _ _ h hI (lv_sub hl [0] rfl)
    rw [if_neg c_24] at h
    refine lv_aload_n hx hb dX6_close_27 rfl (lv_at hl 0 rfl) ?_
    refine lv_iload_n hx hb dX6_close_28 rfl (lv_at hl 1 rfl) ?_
    obtain ⟨r29, hc, h⟩ := bw_b1_e h
    refine bw_callV S hK hZ hI (mX6_hasNext l G cy g a z rows asd sm buf bm 0 od om ow ca bo la pl to rd hh p1 r29 hc) Y_X6_hasNext V_X6_hasNext l_X6_47 ⟨(Nat.le_of_ble_eq_true rfl), (Nat.le_of_ble_eq_true rfl)⟩ (q0 := 0) rfl rfl rfl (ws' := (bw_mW cy a z rows asd sm buf bm 0 od om ow ca bo la pl to rd hh)) (bw_pS _) (bw_pS' _) rfl rfl hl.1 (rest := []) (st1 := [.int r29]) rfl rfl (Nat.le_of_ble_eq_true rfl) dX6_close_29 ⟨(Nat.le_of_ble_eq_true rfl), (Nat.le_of_ble_eq_true rfl)⟩ (fun H locs hI => ?_)
    refine lv_if_eq (tgt := 41) hx hb dX6_close_32 (by decide) (fun c_32 => ?_) (fun c_32 => ?_)
    · rw [if_pos c_32] at h
      refine lv_aload_n hx hb dX6_close_41 rfl (lv_at hl 0 rfl) ?_
      obtain ⟨rows_42, sm_42, hc, h⟩ := bw_b2_e h
      refine bw_callV S hK hZ hI (mX6_save l G cy g a z rows asd sm buf bm 0 od om ow ca bo la pl to rd hh rows_42 sm_42 hc) Y_X6_save V_X6_save l_X6_117 ⟨(Nat.le_of_ble_eq_true rfl), (Nat.le_of_ble_eq_true rfl)⟩ (q0 := 0) rfl rfl rfl (ws' := (bw_mW cy a z rows_42 asd sm_42 buf bm 0 od om ow ca bo la pl to rd hh)) (bw_pS _) (bw_pS' _) rfl rfl hl.1 (rest := []) (st1 := []) rfl rfl (Nat.le_of_ble_eq_true rfl) dX6_close_42 ⟨(Nat.le_of_ble_eq_true rfl), (Nat.le_of_ble_eq_true rfl)⟩ (fun H locs hI => ?_)
      refine lv_aload_n hx hb dX6_close_45 rfl (lv_at hl 0 rfl) ?_
      refine lv_iload_n hx hb dX6_close_46 rfl (lv_at hl 1 rfl) ?_
      refine lv_aload_n hx hb dX6_close_47 rfl (lv_at hl 0 rfl) ?_
      refine bw_get S hK hI 0 0 rfl rfl (by decide) i_X6 f_X6_7 rfl dX6_close_48 ?_
      refine lv_iload_n hx hb dX6_close_51 rfl (lv_at hl 1 rfl) ?_
      obtain ⟨r52, hc, h⟩ := bw_b1_e h
      refine bw_callP S hK hZ hI (mX6_at l G cy g p1 r52 hc) Y_X6_at V_X6_at l_X6_39 ⟨(Nat.le_of_ble_eq_true rfl), (Nat.le_of_ble_eq_true rfl)⟩ (rest := [.ref (a 1), .int p1, .ref (a 0)]) (st1 := [.int r52, .ref (a 1), .int p1, .ref (a 0)]) rfl hl.1 rfl rfl (Nat.le_of_ble_eq_true rfl) dX6_close_52 ⟨(Nat.le_of_ble_eq_true rfl), (Nat.le_of_ble_eq_true rfl)⟩ (fun H locs hI => ?_)
      refine lv_iconst (v := 2) hx hb dX6_close_55 rfl ?_
      refine lv_iadd hx hb dX6_close_56 ?_
      obtain ⟨v57, hv, h⟩ := bw_b1_e h
      refine bw_iald hx hb hK hI 1 hv rfl dX6_close_57 ?_
      obtain ⟨z_58, hc, h⟩ := bw_b1_e h
      refine bw_callV S hK hZ hI (mX6_payAll l G cy g a z rows_42 asd sm_42 buf bm 0 od om ow ca bo la pl to rd hh p1 v57 z_58 hc) Y_X6_payAll V_X6_payAll l_X6_108 ⟨(Nat.le_of_ble_eq_true rfl), (Nat.le_of_ble_eq_true rfl)⟩ (q0 := 0) rfl rfl rfl (ws' := (bw_mW cy a z_58 rows_42 asd sm_42 buf bm 0 od om ow ca bo la pl to rd hh)) (bw_pS _) (bw_pS' _) rfl rfl hl.1 (rest := []) (st1 := []) rfl rfl (Nat.le_of_ble_eq_true rfl) dX6_close_58 ⟨(Nat.le_of_ble_eq_true rfl), (Nat.le_of_ble_eq_true rfl)⟩ (fun H locs hI => ?_)
      refine lv_aload_n hx hb dX6_close_61 rfl (lv_at hl 0 rfl) ?_
      refine lv_iload_n hx hb dX6_close_62 rfl (lv_at hl 1 rfl) ?_
      obtain ⟨r63, z_63, hc, h⟩ := bw_b2_e h
      refine bw_callV S hK hZ hI (mX6_writeOff l G cy g a z_58 rows_42 asd sm_42 buf bm 0 od om ow ca bo la pl to rd hh p1 r63 z_63 hc) Y_X6_writeOff V_X6_writeOff l_X6_138 ⟨(Nat.le_of_ble_eq_true rfl), (Nat.le_of_ble_eq_true rfl)⟩ (q0 := 0) rfl rfl rfl (ws' := (bw_mW cy a z_63 rows_42 asd sm_42 buf bm 0 od om ow ca bo la pl to rd hh)) (bw_pS _) (bw_pS' _) rfl rfl hl.1 (rest := []) (st1 := [.int r63]) rfl rfl (Nat.le_of_ble_eq_true rfl) dX6_close_63 ⟨(Nat.le_of_ble_eq_true rfl), (Nat.le_of_ble_eq_true rfl)⟩ (fun H locs hI => ?_)
      refine lv_istore_n (lv' := [(2, .int r63), (0, .ref (a 0)), (1, .int p1)]) hx hb dX6_close_66 rfl hl (by decide) rfl (fun ls hl => ?_)
      refine lv_aload_n hx hb dX6_close_67 rfl (lv_at hl 1 rfl) ?_
      refine bw_get S hK hI 0 0 rfl rfl (by decide) i_X6 f_X6_7 rfl dX6_close_68 ?_
      refine lv_iload_n hx hb dX6_close_71 rfl (lv_at hl 2 rfl) ?_
      obtain ⟨r72, hc, h⟩ := bw_b1_e h
      refine bw_callP S hK hZ hI (mX6_at l G cy g p1 r72 hc) Y_X6_at V_X6_at l_X6_39 ⟨(Nat.le_of_ble_eq_true rfl), (Nat.le_of_ble_eq_true rfl)⟩ (rest := [.ref (a 1)]) (st1 := [.int r72, .ref (a 1)]) rfl hl.1 rfl rfl (Nat.le_of_ble_eq_true rfl) dX6_close_72 ⟨(Nat.le_of_ble_eq_true rfl), (Nat.le_of_ble_eq_true rfl)⟩ (fun H locs hI => ?_)
      refine lv_bipush (v := 7) hx hb dX6_close_75 (by decide) ?_
      refine lv_iadd hx hb dX6_close_77 ?_
      refine lv_iconst (v := 0) hx hb dX6_close_78 rfl ?_
      obtain ⟨z_79, hv, h⟩ := bw_b1_e h
      refine bw_iast hx hb hK hI 1 (ws' := (bw_mW cy a z_79 rows_42 asd sm_42 buf bm 0 od om ow ca bo la pl to rd hh)) hv rfl rfl dX6_close_79 (fun H locs hI => ?_)
      refine lv_aload_n hx hb dX6_close_80 rfl (lv_at hl 1 rfl) ?_
      refine bw_get S hK hI 0 0 rfl rfl (by decide) i_X6 f_X6_7 rfl dX6_close_81 ?_
      refine lv_iconst (v := 2) hx hb dX6_close_84 rfl ?_
      refine lv_dup2_11 hx hb dX6_close_85 rfl rfl ?_
      obtain ⟨v86, hv, h⟩ := bw_b1_e h
      refine bw_iald hx hb hK hI 1 hv rfl dX6_close_86 ?_
      refine lv_iload_n hx hb dX6_close_87 rfl (lv_at hl 0 rfl) ?_
      refine lv_iadd hx hb dX6_close_88 ?_
      obtain ⟨z_89, hv, h⟩ := bw_b1_e h
      refine bw_iast hx hb hK hI 1 (ws' := (bw_mW cy a z_89 rows_42 asd sm_42 buf bm 0 od om ow ca bo la pl to rd hh)) hv rfl rfl dX6_close_89 (fun H locs hI => ?_)
      refine lv_iload_n hx hb dX6_close_90 rfl (lv_at hl 0 rfl) ?_
      exact bw_iret (d := (z_89, rows_42, sm_42, 0)) (rr := (r, z', rows', sm', th')) S hr hlocks h (fun q : (bw_A1 × bw_A1 × Int32 × Int32) => (bw_mW cy a q.1 q.2.1 asd q.2.2.1 buf bm q.2.2.2 od om ow ca bo la pl to rd hh)) hI rfl dX6_close_91 hQ
    rw [if_neg c_32] at h
    exact j35 z rows sm 0 _ _ _ h hI (lv_sub hl [0] rfl)
  rw [if_pos c_10] at h
  refine lv_aload_n hx hb dX6_close_13 rfl (lv_at hl 0 rfl) ?_
  refine lv_iconst (v := 1) hx hb dX6_close_14 rfl ?_
  obtain ⟨r15, th_15, hc, h⟩ := bw_b2_e h
  refine bw_callV S hK hZ hI (mX6_fails l G cy g a z rows asd sm buf bm 0 od om ow ca bo la pl to rd hh 1 r15 th_15 hc) Y_X6_fails V_X6_fails l_X6_114 ⟨(Nat.le_of_ble_eq_true rfl), (Nat.le_of_ble_eq_true rfl)⟩ (q0 := 0) rfl rfl rfl (ws' := (bw_mW cy a z rows asd sm buf bm th_15 od om ow ca bo la pl to rd hh)) (bw_pS _) (bw_pS' _) rfl rfl hl.1 (rest := []) (st1 := [.int r15]) rfl rfl (Nat.le_of_ble_eq_true rfl) dX6_close_15 ⟨(Nat.le_of_ble_eq_true rfl), (Nat.le_of_ble_eq_true rfl)⟩ (fun H locs hI => ?_)
  exact bw_iret (d := (z, rows, sm, th_15)) (rr := (r, z', rows', sm', th')) S hr hlocks h (fun q : (bw_A1 × bw_A1 × Int32 × Int32) => (bw_mW cy a q.1 q.2.1 asd q.2.2.1 buf bm q.2.2.2 od om ow ca bo la pl to rd hh)) hI rfl dX6_close_18 hQ
set_option maxHeartbeats 4000000 in
set_option maxRecDepth 100000 in
theorem mX6_append (l : Launch) (G : va_G) (cy : Nat → ClassId) (g : Nat) (a : Nat → Nat) (z : bw_A1) (rows : bw_A1) (asd : bw_A1) (sm : Int32) (buf : bw_A1) (bm : Int32) (th : Int32) (od : bw_A1) (om : Int32) (ow : Int32) (ca : Int32) (bo : Int32) (la : Int32) (pl : Int32) (to : Int32) (rd : bw_A1) (hh : Int64) (p1 : Int32) (r : Int32) (buf' : bw_A1) (bm' : Int32) (th' : Int32) (h : fX6_append buf bm th p1 = some (r, buf', bm', th')) : bw_M l yX6_append cX6_append 2 (some .int) 1 22 G cy g [.ref (a 0), .int p1] (bw_mW cy a z rows asd sm buf bm th od om ow ca bo la pl to rd hh) (some (.int r)) (bw_mW cy a z rows asd sm buf' bm' th' od om ow ca bo la pl to rd hh) := by
  refine bw_ofW (by decide +kernel) RX6 rfl (Nat.le_of_ble_eq_true rfl) ?_
  intro p e s m below meth c ls S hr hlocks hK hZ hI hl
  have hx := S.1
  have hb := S.2.1
  have hown := S.2.2.2.1
  have hts := S.2.2.2.2
  generalize va_A _ s.heap.size = A at hI hZ ⊢
  generalize hQ : MQ below _ _ s 0 0 A = Q
  have hl : lv_has ls 2 [(0, .ref (a 0)), (1, .int p1)] := hl
  unfold fX6_append at h
  refine lv_aload_n hx hb dX6_append_0 rfl (lv_at hl 0 rfl) ?_
  refine lv_iconst (v := 0) hx hb dX6_append_1 rfl ?_
  refine bw_put S hK hI 0 6 (ws' := (bw_mW cy a z rows asd sm buf bm 0 od om ow ca bo la pl to rd hh)) tyX6 tyX6_ok nmX6 rfl rfl (by decide) i_X6 f_X6_28 rfl rfl rfl rfl (Nat.le_of_ble_eq_true rfl) rfl dX6_append_2 (fun H locs hI => ?_)
  refine lv_iload_n hx hb dX6_append_5 rfl (lv_at hl 1 rfl) ?_
  refine lv_bipush (v := 33) hx hb dX6_append_6 (by decide) ?_
  refine lv_bipush (v := 126) hx hb dX6_append_8 (by decide) ?_
  obtain ⟨r10, hc, h⟩ := bw_b1_e h
  refine bw_callP S hK hZ hI (mX6_in l G cy g p1 33 126 r10 hc) Y_X6_in V_X6_in l_X6_35 ⟨(Nat.le_of_ble_eq_true rfl), (Nat.le_of_ble_eq_true rfl)⟩ (rest := []) (st1 := [.int r10]) rfl hl.1 rfl rfl (Nat.le_of_ble_eq_true rfl) dX6_append_10 ⟨(Nat.le_of_ble_eq_true rfl), (Nat.le_of_ble_eq_true rfl)⟩ (fun H locs hI => ?_)
  refine lv_if_ne (tgt := 22) hx hb dX6_append_13 (by decide) (fun c_13 => ?_) (fun c_13 => ?_)
  · rw [if_neg c_13] at h
    refine lv_aload_n hx hb dX6_append_22 rfl (lv_at hl 0 rfl) ?_
    refine bw_get S hK hI 0 5 rfl rfl (by decide) i_X6 f_X6_141 rfl dX6_append_23 ?_
    refine lv_bipush (v := 60) hx hb dX6_append_26 (by decide) ?_
    refine lv_icmp_ne (tgt := 37) hx hb dX6_append_28 (by decide) (fun c_28 => ?_) (fun c_28 => ?_)
    · rw [if_neg c_28] at h
      refine lv_aload_n hx hb dX6_append_37 rfl (lv_at hl 0 rfl) ?_
      refine bw_get S hK hI 0 4 rfl rfl (by decide) i_X6 f_X6_19 rfl dX6_append_38 ?_
      refine lv_aload_n hx hb dX6_append_41 rfl (lv_at hl 0 rfl) ?_
      refine bw_get S hK hI 0 5 rfl rfl (by decide) i_X6 f_X6_141 rfl dX6_append_42 ?_
      refine lv_iload_n hx hb dX6_append_45 rfl (lv_at hl 1 rfl) ?_
      obtain ⟨buf_46, hv, h⟩ := bw_b1_e h
      refine bw_iast hx hb hK hI 4 (ws' := (bw_mW cy a z rows asd sm buf_46 bm 0 od om ow ca bo la pl to rd hh)) hv rfl rfl dX6_append_46 (fun H locs hI => ?_)
      refine lv_aload_n hx hb dX6_append_47 rfl (lv_at hl 0 rfl) ?_
      refine lv_dup hx hb dX6_append_48 rfl ?_
      refine bw_get S hK hI 0 5 rfl rfl (by decide) i_X6 f_X6_141 rfl dX6_append_49 ?_
      refine lv_iconst (v := 1) hx hb dX6_append_52 rfl ?_
      refine lv_iadd hx hb dX6_append_53 ?_
      refine lv_topi (fun bm_54 e_54 => ?_)
      have h := bw_let_e h e_54
      clear e_54
      refine bw_put S hK hI 0 5 (ws' := (bw_mW cy a z rows asd sm buf_46 bm_54 0 od om ow ca bo la pl to rd hh)) tyX6 tyX6_ok nmX6 rfl rfl (by decide) i_X6 f_X6_141 rfl rfl rfl rfl (Nat.le_of_ble_eq_true rfl) rfl dX6_append_54 (fun H locs hI => ?_)
      refine lv_aload_n hx hb dX6_append_57 rfl (lv_at hl 0 rfl) ?_
      refine bw_get S hK hI 0 5 rfl rfl (by decide) i_X6 f_X6_141 rfl dX6_append_58 ?_
      exact bw_iret (d := (buf_46, bm_54, 0)) (rr := (r, buf', bm', th')) S hr hlocks h (fun q : (bw_A1 × Int32 × Int32) => (bw_mW cy a z rows asd sm q.1 q.2.1 q.2.2 od om ow ca bo la pl to rd hh)) hI rfl dX6_append_61 hQ
    rw [if_pos c_28] at h
    refine lv_aload_n hx hb dX6_append_31 rfl (lv_at hl 0 rfl) ?_
    refine lv_iconst (v := 2) hx hb dX6_append_32 rfl ?_
    obtain ⟨r33, th_33, hc, h⟩ := bw_b2_e h
    refine bw_callV S hK hZ hI (mX6_fails l G cy g a z rows asd sm buf bm 0 od om ow ca bo la pl to rd hh 2 r33 th_33 hc) Y_X6_fails V_X6_fails l_X6_114 ⟨(Nat.le_of_ble_eq_true rfl), (Nat.le_of_ble_eq_true rfl)⟩ (q0 := 0) rfl rfl rfl (ws' := (bw_mW cy a z rows asd sm buf bm th_33 od om ow ca bo la pl to rd hh)) (bw_pS _) (bw_pS' _) rfl rfl hl.1 (rest := []) (st1 := [.int r33]) rfl rfl (Nat.le_of_ble_eq_true rfl) dX6_append_33 ⟨(Nat.le_of_ble_eq_true rfl), (Nat.le_of_ble_eq_true rfl)⟩ (fun H locs hI => ?_)
    exact bw_iret (d := (buf, bm, th_33)) (rr := (r, buf', bm', th')) S hr hlocks h (fun q : (bw_A1 × Int32 × Int32) => (bw_mW cy a z rows asd sm q.1 q.2.1 q.2.2 od om ow ca bo la pl to rd hh)) hI rfl dX6_append_36 hQ
  rw [if_pos c_13] at h
  refine lv_aload_n hx hb dX6_append_16 rfl (lv_at hl 0 rfl) ?_
  refine lv_iconst (v := 1) hx hb dX6_append_17 rfl ?_
  obtain ⟨r18, th_18, hc, h⟩ := bw_b2_e h
  refine bw_callV S hK hZ hI (mX6_fails l G cy g a z rows asd sm buf bm 0 od om ow ca bo la pl to rd hh 1 r18 th_18 hc) Y_X6_fails V_X6_fails l_X6_114 ⟨(Nat.le_of_ble_eq_true rfl), (Nat.le_of_ble_eq_true rfl)⟩ (q0 := 0) rfl rfl rfl (ws' := (bw_mW cy a z rows asd sm buf bm th_18 od om ow ca bo la pl to rd hh)) (bw_pS _) (bw_pS' _) rfl rfl hl.1 (rest := []) (st1 := [.int r18]) rfl rfl (Nat.le_of_ble_eq_true rfl) dX6_append_18 ⟨(Nat.le_of_ble_eq_true rfl), (Nat.le_of_ble_eq_true rfl)⟩ (fun H locs hI => ?_)
  exact bw_iret (d := (buf, bm, th_18)) (rr := (r, buf', bm', th')) S hr hlocks h (fun q : (bw_A1 × Int32 × Int32) => (bw_mW cy a z rows asd sm q.1 q.2.1 q.2.2 od om ow ca bo la pl to rd hh)) hI rfl dX6_append_21 hQ
set_option maxHeartbeats 4000000 in
set_option maxRecDepth 100000 in
theorem mX6_clearBuffer (l : Launch) (G : va_G) (cy : Nat → ClassId) (g : Nat) (a : Nat → Nat) (z : bw_A1) (rows : bw_A1) (asd : bw_A1) (sm : Int32) (buf : bw_A1) (bm : Int32) (th : Int32) (od : bw_A1) (om : Int32) (ow : Int32) (ca : Int32) (bo : Int32) (la : Int32) (pl : Int32) (to : Int32) (rd : bw_A1) (hh : Int64) (r : Int32) (bm' : Int32) (th' : Int32) (h : fX6_clearBuffer bm th = some (r, bm', th')) : bw_M l yX6_clearBuffer cX6_clearBuffer 2 (some .int) 0 0 G cy g [.ref (a 0)] (bw_mW cy a z rows asd sm buf bm th od om ow ca bo la pl to rd hh) (some (.int r)) (bw_mW cy a z rows asd sm buf bm' th' od om ow ca bo la pl to rd hh) := by
  refine bw_ofW (by decide +kernel) RX6 rfl (Nat.le_of_ble_eq_true rfl) ?_
  intro p e s m below meth c ls S hr hlocks hK hZ hI hl
  have hx := S.1
  have hb := S.2.1
  have hown := S.2.2.2.1
  have hts := S.2.2.2.2
  generalize va_A _ s.heap.size = A at hI hZ ⊢
  generalize hQ : MQ below _ _ s 0 0 A = Q
  have hl : lv_has ls 2 [(0, .ref (a 0))] := hl
  unfold fX6_clearBuffer at h
  refine lv_aload_n hx hb dX6_clearBuffer_0 rfl (lv_at hl 0 rfl) ?_
  refine lv_iconst (v := 0) hx hb dX6_clearBuffer_1 rfl ?_
  refine bw_put S hK hI 0 6 (ws' := (bw_mW cy a z rows asd sm buf bm 0 od om ow ca bo la pl to rd hh)) tyX6 tyX6_ok nmX6 rfl rfl (by decide) i_X6 f_X6_28 rfl rfl rfl rfl (Nat.le_of_ble_eq_true rfl) rfl dX6_clearBuffer_2 (fun H locs hI => ?_)
  refine lv_aload_n hx hb dX6_clearBuffer_5 rfl (lv_at hl 0 rfl) ?_
  refine bw_get S hK hI 0 5 rfl rfl (by decide) i_X6 f_X6_141 rfl dX6_clearBuffer_6 ?_
  refine lv_istore_n (lv' := [(1, .int bm), (0, .ref (a 0))]) hx hb dX6_clearBuffer_9 rfl hl (by decide) rfl (fun ls hl => ?_)
  refine lv_aload_n hx hb dX6_clearBuffer_10 rfl (lv_at hl 1 rfl) ?_
  refine lv_iconst (v := 0) hx hb dX6_clearBuffer_11 rfl ?_
  refine bw_put S hK hI 0 5 (ws' := (bw_mW cy a z rows asd sm buf 0 0 od om ow ca bo la pl to rd hh)) tyX6 tyX6_ok nmX6 rfl rfl (by decide) i_X6 f_X6_141 rfl rfl rfl rfl (Nat.le_of_ble_eq_true rfl) rfl dX6_clearBuffer_12 (fun H locs hI => ?_)
  refine lv_iload_n hx hb dX6_clearBuffer_15 rfl (lv_at hl 0 rfl) ?_
  exact bw_iret (d := (0, 0)) (rr := (r, bm', th')) S hr hlocks h (fun q : (Int32 × Int32) => (bw_mW cy a z rows asd sm buf q.1 q.2 od om ow ca bo la pl to rd hh)) hI rfl dX6_clearBuffer_16 hQ
set_option maxHeartbeats 4000000 in
set_option maxRecDepth 100000 in
theorem mX6_next (l : Launch) (G : va_G) (cy : Nat → ClassId) (g : Nat) (a : Nat → Nat) (z : bw_A1) (rows : bw_A1) (asd : bw_A1) (sm : Int32) (buf : bw_A1) (bm : Int32) (th : Int32) (od : bw_A1) (om : Int32) (ow : Int32) (ca : Int32) (bo : Int32) (la : Int32) (pl : Int32) (to : Int32) (rd : bw_A1) (hh : Int64) (r : Int32) (h : fX6_next buf bm pl = some r) : bw_M l yX6_next cX6_next 1 (some .int) 0 0 G cy g [.ref (a 0)] (bw_mW cy a z rows asd sm buf bm th od om ow ca bo la pl to rd hh) (some (.int r)) (bw_mW cy a z rows asd sm buf bm th od om ow ca bo la pl to rd hh) := by
  refine bw_ofW (by decide +kernel) RX6 rfl (Nat.le_of_ble_eq_true rfl) ?_
  intro p e s m below meth c ls S hr hlocks hK hZ hI hl
  have hx := S.1
  have hb := S.2.1
  have hown := S.2.2.2.1
  have hts := S.2.2.2.2
  generalize va_A _ s.heap.size = A at hI hZ ⊢
  generalize hQ : MQ below _ _ s 0 0 A = Q
  have hl : lv_has ls 1 [(0, .ref (a 0))] := hl
  unfold fX6_next at h
  refine lv_aload_n hx hb dX6_next_0 rfl (lv_at hl 0 rfl) ?_
  refine bw_get S hK hI 0 13 rfl rfl (by decide) i_X6 f_X6_144 rfl dX6_next_1 ?_
  refine lv_aload_n hx hb dX6_next_4 rfl (lv_at hl 0 rfl) ?_
  refine bw_get S hK hI 0 5 rfl rfl (by decide) i_X6 f_X6_141 rfl dX6_next_5 ?_
  refine lv_icmp_ge (tgt := 23) hx hb dX6_next_8 (by decide) (fun c_8 => ?_) (fun c_8 => ?_)
  · rw [if_pos c_8] at h
    refine lv_iconst (v := 0) hx hb dX6_next_23 rfl ?_
    exact bw_iretP S hr hlocks h hI rfl dX6_next_24 hQ
  rw [if_neg c_8] at h
  refine lv_aload_n hx hb dX6_next_11 rfl (lv_at hl 0 rfl) ?_
  refine bw_get S hK hI 0 4 rfl rfl (by decide) i_X6 f_X6_19 rfl dX6_next_12 ?_
  refine lv_aload_n hx hb dX6_next_15 rfl (lv_at hl 0 rfl) ?_
  refine bw_get S hK hI 0 13 rfl rfl (by decide) i_X6 f_X6_144 rfl dX6_next_16 ?_
  obtain ⟨v19, hv, h⟩ := bw_b1_e h
  refine bw_iald hx hb hK hI 4 hv rfl dX6_next_19 ?_
  refine lv_goto (tgt := 24) hx hb dX6_next_20 (by decide) ?_
  exact bw_iretP S hr hlocks h hI rfl dX6_next_24 hQ
set_option maxHeartbeats 4000000 in
set_option maxRecDepth 100000 in
theorem mX6_takes (l : Launch) (G : va_G) (cy : Nat → ClassId) (g : Nat) (a : Nat → Nat) (z : bw_A1) (rows : bw_A1) (asd : bw_A1) (sm : Int32) (buf : bw_A1) (bm : Int32) (th : Int32) (od : bw_A1) (om : Int32) (ow : Int32) (ca : Int32) (bo : Int32) (la : Int32) (pl : Int32) (to : Int32) (rd : bw_A1) (hh : Int64) (p1 : Int32) (r : Int32) (pl' : Int32) (h : fX6_takes buf bm pl p1 = some (r, pl')) : bw_M l yX6_takes cX6_takes 3 (some .boolean) 1 20 G cy g [.ref (a 0), .int p1] (bw_mW cy a z rows asd sm buf bm th od om ow ca bo la pl to rd hh) (some (.int r)) (bw_mW cy a z rows asd sm buf bm th od om ow ca bo la pl' to rd hh) := by
  refine bw_ofW (by decide +kernel) RX6 rfl (Nat.le_of_ble_eq_true rfl) ?_
  intro p e s m below meth c ls S hr hlocks hK hZ hI hl
  have hx := S.1
  have hb := S.2.1
  have hown := S.2.2.2.1
  have hts := S.2.2.2.2
  generalize va_A _ s.heap.size = A at hI hZ ⊢
  generalize hQ : MQ below _ _ s 0 0 A = Q
  have hl : lv_has ls 3 [(0, .ref (a 0)), (1, .int p1)] := hl
  have j28 : ∀ (pl : Int32) (x2 : Int32) (s0 : Int32) (s1 : Int32) (H : Heap) (locs : List Loc) (ls : Array Slot), jX6_takes_28 buf bm pl x2 s0 s1 = some (r, pl') → bw_I G A s.heap (bw_mW cy a z rows asd sm buf bm th od om ow ca bo la pl to rd hh) H locs → lv_has ls 3 [(2, .int x2)] → W p l e (bw_rm 1 20) s m [.ref (a 0), .int p1].toArray below meth c H locs 0 0 Q (F0 m 28 ls [.int s0, .int s1, .ref (a 0)]) := by
    intro pl x2 s0 s1 H locs ls h hI hl
    unfold jX6_takes_28 at h
    refine lv_iadd hx hb dX6_takes_28 ?_
    refine lv_topi (fun pl_29 e_29 => ?_)
    have h := bw_let_e h e_29
    clear e_29
    refine bw_put S hK hI 0 13 (ws' := (bw_mW cy a z rows asd sm buf bm th od om ow ca bo la pl_29 to rd hh)) tyX6 tyX6_ok nmX6 rfl rfl (by decide) i_X6 f_X6_144 rfl rfl rfl rfl (Nat.le_of_ble_eq_true rfl) rfl dX6_takes_29 (fun H locs hI => ?_)
    refine lv_iload_n hx hb dX6_takes_32 rfl (lv_at hl 0 rfl) ?_
    obtain ⟨h9, h⟩ := bw_bool_e h
    exact bw_iret (d := pl_29) (rr := (r, pl')) S hr hlocks h (fun q : Int32 => (bw_mW cy a z rows asd sm buf bm th od om ow ca bo la q to rd hh)) hI h9 dX6_takes_33 hQ
  have j13 : ∀ (pl : Int32) (s0 : Int32) (H : Heap) (locs : List Loc) (ls : Array Slot), jX6_takes_13 buf bm pl s0 = some (r, pl') → bw_I G A s.heap (bw_mW cy a z rows asd sm buf bm th od om ow ca bo la pl to rd hh) H locs → lv_has ls 3 [(0, .ref (a 0))] → W p l e (bw_rm 1 20) s m [.ref (a 0), .int p1].toArray below meth c H locs 0 0 Q (F0 m 13 ls [.int s0]) := by
    intro pl s0 H locs ls h hI hl
    unfold jX6_takes_13 at h
    refine lv_istore_n (lv' := [(2, .int s0), (0, .ref (a 0))]) hx hb dX6_takes_13 rfl hl (by decide) rfl (fun ls hl => ?_)
    refine lv_aload_n hx hb dX6_takes_14 rfl (lv_at hl 1 rfl) ?_
    refine lv_dup hx hb dX6_takes_15 rfl ?_
    refine bw_get S hK hI 0 13 rfl rfl (by decide) i_X6 f_X6_144 rfl dX6_takes_16 ?_
    refine lv_iload_n hx hb dX6_takes_19 rfl (lv_at hl 0 rfl) ?_
    refine lv_if_eq (tgt := 27) hx hb dX6_takes_20 (by decide) (fun c_20 => ?_) (fun c_20 => ?_)
    · rw [if_pos c_20] at h
      refine lv_iconst (v := 0) hx hb dX6_takes_27 rfl ?_
      exact j28 pl s0 0 pl _ _ _ h hI (lv_sub hl [0] rfl)
    rw [if_neg c_20] at h
    refine lv_iconst (v := 1) hx hb dX6_takes_23 rfl ?_
    refine lv_goto (tgt := 28) hx hb dX6_takes_24 (by decide) ?_
    exact j28 pl s0 1 pl _ _ _ h hI (lv_sub hl [0] rfl)
  unfold fX6_takes at h
  refine lv_aload_n hx hb dX6_takes_0 rfl (lv_at hl 0 rfl) ?_
  obtain ⟨r1, hc, h⟩ := bw_b1_e h
  refine bw_callV S hK hZ hI (mX6_next l G cy g a z rows asd sm buf bm th od om ow ca bo la pl to rd hh r1 hc) Y_X6_next V_X6_next l_X6_147 ⟨(Nat.le_of_ble_eq_true rfl), (Nat.le_of_ble_eq_true rfl)⟩ (q0 := 0) rfl rfl rfl (ws' := (bw_mW cy a z rows asd sm buf bm th od om ow ca bo la pl to rd hh)) (bw_pS _) (bw_pS' _) rfl rfl hl.1 (rest := []) (st1 := [.int r1]) rfl rfl (Nat.le_of_ble_eq_true rfl) dX6_takes_1 ⟨(Nat.le_of_ble_eq_true rfl), (Nat.le_of_ble_eq_true rfl)⟩ (fun H locs hI => ?_)
  refine lv_iload_n hx hb dX6_takes_4 rfl (lv_at hl 1 rfl) ?_
  refine lv_icmp_ne (tgt := 12) hx hb dX6_takes_5 (by decide) (fun c_5 => ?_) (fun c_5 => ?_)
  · rw [if_neg c_5] at h
    refine lv_iconst (v := 0) hx hb dX6_takes_12 rfl ?_
    exact j13 pl 0 _ _ _ h hI (lv_sub hl [0] rfl)
  rw [if_pos c_5] at h
  refine lv_iconst (v := 1) hx hb dX6_takes_8 rfl ?_
  refine lv_goto (tgt := 13) hx hb dX6_takes_9 (by decide) ?_
  exact j13 pl 1 _ _ _ h hI (lv_sub hl [0] rfl)
set_option maxHeartbeats 4000000 in
set_option maxRecDepth 100000 in
theorem mX6_number (l : Launch) (G : va_G) (cy : Nat → ClassId) (g : Nat) (a : Nat → Nat) (z : bw_A1) (rows : bw_A1) (asd : bw_A1) (sm : Int32) (buf : bw_A1) (bm : Int32) (th : Int32) (od : bw_A1) (om : Int32) (ow : Int32) (ca : Int32) (bo : Int32) (la : Int32) (pl : Int32) (to : Int32) (rd : bw_A1) (hh : Int64) (p1 : Int32) (p2 : Int32) (r : Int32) (pl' : Int32) (h : fX6_number buf bm pl p1 p2 = some (r, pl')) : bw_M l yX6_number cX6_number 7 (some .int) 1 22 G cy g [.ref (a 0), .int p1, .int p2] (bw_mW cy a z rows asd sm buf bm th od om ow ca bo la pl to rd hh) (some (.int r)) (bw_mW cy a z rows asd sm buf bm th od om ow ca bo la pl' to rd hh) := by
  refine bw_ofW (by decide +kernel) RX6 rfl (Nat.le_of_ble_eq_true rfl) ?_
  intro p e s m below meth c ls S hr hlocks hK hZ hI hl
  have hx := S.1
  have hb := S.2.1
  have hown := S.2.2.2.1
  have hts := S.2.2.2.2
  generalize va_A _ s.heap.size = A at hI hZ ⊢
  generalize hQ : MQ below _ _ s 0 0 A = Q
  have hl : lv_has ls 7 [(0, .ref (a 0)), (1, .int p1), (2, .int p2)] := hl
  have j97 : ∀ (pl : Int32) (x1 : Int32) (x2 : Int32) (x3 : Int32) (x4 : Int32) (s0 : Int32) (s1 : Int32) (k5 : Int32 → Int32 → Int32 → Option (Int32 × Int32)) (hk5 : ∀ (H : Heap) (locs : List Loc) (ls : Array Slot) (pl_ : Int32) (x3_ : Int32) (x4_ : Int32), k5 pl_ x3_ x4_ = some (r, pl') → bw_I G A s.heap (bw_mW cy a z rows asd sm buf bm th od om ow ca bo la pl_ to rd hh) H locs → lv_has ls 7 [(0, .ref (a 0)), (1, .int x1), (2, .int x2), (3, .int x3_), (4, .int x4_)] → W p l e (bw_rm 1 22) s m [.ref (a 0), .int p1, .int p2].toArray below meth c H locs 0 0 Q (F0 m 5 ls [])) (H : Heap) (locs : List Loc) (ls : Array Slot), jX6_number_97 k5 buf bm pl x1 x2 x3 x4 s0 s1 = some (r, pl') → bw_I G A s.heap (bw_mW cy a z rows asd sm buf bm th od om ow ca bo la pl to rd hh) H locs → lv_has ls 7 [(0, .ref (a 0)), (1, .int x1), (2, .int x2), (3, .int x3), (4, .int x4)] → W p l e (bw_rm 1 22) s m [.ref (a 0), .int p1, .int p2].toArray below meth c H locs 0 0 Q (F0 m 97 ls [.int s0, .int s1, .ref (a 0)]) := by
    intro pl x1 x2 x3 x4 s0 s1 k5 hk5 H locs ls h hI hl
    unfold jX6_number_97 at h
    refine lv_iadd hx hb dX6_number_97 ?_
    refine lv_topi (fun pl_98 e_98 => ?_)
    have h := bw_let_e h e_98
    clear e_98
    refine bw_put S hK hI 0 13 (ws' := (bw_mW cy a z rows asd sm buf bm th od om ow ca bo la pl_98 to rd hh)) tyX6 tyX6_ok nmX6 rfl rfl (by decide) i_X6 f_X6_144 rfl rfl rfl rfl (Nat.le_of_ble_eq_true rfl) rfl dX6_number_98 (fun H locs hI => ?_)
    refine lv_goto (tgt := 5) hx hb dX6_number_101 (by decide) ?_
    exact hk5 _ _ _ pl_98 x3 x4 h hI (lv_sub hl [0,1,2,3,4] rfl)
  have j81 : ∀ (pl : Int32) (x1 : Int32) (x2 : Int32) (x4 : Int32) (s0 : Int32) (k5 : Int32 → Int32 → Int32 → Option (Int32 × Int32)) (hk5 : ∀ (H : Heap) (locs : List Loc) (ls : Array Slot) (pl_ : Int32) (x3_ : Int32) (x4_ : Int32), k5 pl_ x3_ x4_ = some (r, pl') → bw_I G A s.heap (bw_mW cy a z rows asd sm buf bm th od om ow ca bo la pl_ to rd hh) H locs → lv_has ls 7 [(0, .ref (a 0)), (1, .int x1), (2, .int x2), (3, .int x3_), (4, .int x4_)] → W p l e (bw_rm 1 22) s m [.ref (a 0), .int p1, .int p2].toArray below meth c H locs 0 0 Q (F0 m 5 ls [])) (H : Heap) (locs : List Loc) (ls : Array Slot), jX6_number_81 k5 buf bm pl x1 x2 x4 s0 = some (r, pl') → bw_I G A s.heap (bw_mW cy a z rows asd sm buf bm th od om ow ca bo la pl to rd hh) H locs → lv_has ls 7 [(0, .ref (a 0)), (1, .int x1), (2, .int x2), (4, .int x4)] → W p l e (bw_rm 1 22) s m [.ref (a 0), .int p1, .int p2].toArray below meth c H locs 0 0 Q (F0 m 81 ls [.int s0]) := by
    intro pl x1 x2 x4 s0 k5 hk5 H locs ls h hI hl
    unfold jX6_number_81 at h
    refine lv_istore_n (lv' := [(3, .int s0), (0, .ref (a 0)), (1, .int x1), (2, .int x2), (4, .int x4)]) hx hb dX6_number_81 rfl hl (by decide) rfl (fun ls hl => ?_)
    refine lv_aload_n hx hb dX6_number_82 rfl (lv_at hl 1 rfl) ?_
    refine lv_dup hx hb dX6_number_83 rfl ?_
    refine bw_get S hK hI 0 13 rfl rfl (by decide) i_X6 f_X6_144 rfl dX6_number_84 ?_
    refine lv_iload hx hb dX6_number_87 (lv_at hl 4 rfl) ?_
    refine lv_if_eq (tgt := 96) hx hb dX6_number_89 (by decide) (fun c_89 => ?_) (fun c_89 => ?_)
    · rw [if_pos c_89] at h
      refine lv_iconst (v := 0) hx hb dX6_number_96 rfl ?_
      exact j97 pl x1 x2 s0 x4 0 pl k5 hk5 _ _ _ h hI (lv_sub hl [1,2,3,0,4] rfl)
    rw [if_neg c_89] at h
    refine lv_iconst (v := 1) hx hb dX6_number_92 rfl ?_
    refine lv_goto (tgt := 97) hx hb dX6_number_93 (by decide) ?_
    exact j97 pl x1 x2 s0 x4 1 pl k5 hk5 _ _ _ h hI (lv_sub hl [1,2,3,0,4] rfl)
  have j68 : ∀ (pl : Int32) (x1 : Int32) (x2 : Int32) (x3 : Int32) (x6 : Int32) (s0 : Int32) (k5 : Int32 → Int32 → Int32 → Option (Int32 × Int32)) (hk5 : ∀ (H : Heap) (locs : List Loc) (ls : Array Slot) (pl_ : Int32) (x3_ : Int32) (x4_ : Int32), k5 pl_ x3_ x4_ = some (r, pl') → bw_I G A s.heap (bw_mW cy a z rows asd sm buf bm th od om ow ca bo la pl_ to rd hh) H locs → lv_has ls 7 [(0, .ref (a 0)), (1, .int x1), (2, .int x2), (3, .int x3_), (4, .int x4_)] → W p l e (bw_rm 1 22) s m [.ref (a 0), .int p1, .int p2].toArray below meth c H locs 0 0 Q (F0 m 5 ls [])) (H : Heap) (locs : List Loc) (ls : Array Slot), jX6_number_68 k5 buf bm pl x1 x2 x3 x6 s0 = some (r, pl') → bw_I G A s.heap (bw_mW cy a z rows asd sm buf bm th od om ow ca bo la pl to rd hh) H locs → lv_has ls 7 [(0, .ref (a 0)), (1, .int x1), (2, .int x2), (3, .int x3), (6, .int x6)] → W p l e (bw_rm 1 22) s m [.ref (a 0), .int p1, .int p2].toArray below meth c H locs 0 0 Q (F0 m 68 ls [.int s0]) := by
    intro pl x1 x2 x3 x6 s0 k5 hk5 H locs ls h hI hl
    unfold jX6_number_68 at h
    refine lv_istore (lv' := [(4, .int s0), (0, .ref (a 0)), (1, .int x1), (2, .int x2), (3, .int x3), (6, .int x6)]) hx hb dX6_number_68 hl (by decide) rfl (fun ls hl => ?_)
    refine lv_iload hx hb dX6_number_70 (lv_at hl 0 rfl) ?_
    refine lv_if_eq (tgt := 80) hx hb dX6_number_72 (by decide) (fun c_72 => ?_) (fun c_72 => ?_)
    · rw [if_pos c_72] at h
      refine lv_iload_n hx hb dX6_number_80 rfl (lv_at hl 4 rfl) ?_
      exact j81 pl x1 x2 s0 x3 k5 hk5 _ _ _ h hI (lv_sub hl [1,2,3,0] rfl)
    rw [if_neg c_72] at h
    refine lv_iload hx hb dX6_number_75 (lv_at hl 5 rfl) ?_
    refine lv_goto (tgt := 81) hx hb dX6_number_77 (by decide) ?_
    exact j81 pl x1 x2 s0 x6 k5 hk5 _ _ _ h hI (lv_sub hl [1,2,3,0] rfl)
  have j67 : ∀ (pl : Int32) (x1 : Int32) (x2 : Int32) (x3 : Int32) (x6 : Int32) (k5 : Int32 → Int32 → Int32 → Option (Int32 × Int32)) (hk5 : ∀ (H : Heap) (locs : List Loc) (ls : Array Slot) (pl_ : Int32) (x3_ : Int32) (x4_ : Int32), k5 pl_ x3_ x4_ = some (r, pl') → bw_I G A s.heap (bw_mW cy a z rows asd sm buf bm th od om ow ca bo la pl_ to rd hh) H locs → lv_has ls 7 [(0, .ref (a 0)), (1, .int x1), (2, .int x2), (3, .int x3_), (4, .int x4_)] → W p l e (bw_rm 1 22) s m [.ref (a 0), .int p1, .int p2].toArray below meth c H locs 0 0 Q (F0 m 5 ls [])) (H : Heap) (locs : List Loc) (ls : Array Slot), jX6_number_67 k5 buf bm pl x1 x2 x3 x6 = some (r, pl') → bw_I G A s.heap (bw_mW cy a z rows asd sm buf bm th od om ow ca bo la pl to rd hh) H locs → lv_has ls 7 [(0, .ref (a 0)), (1, .int x1), (2, .int x2), (3, .int x3), (6, .int x6)] → W p l e (bw_rm 1 22) s m [.ref (a 0), .int p1, .int p2].toArray below meth c H locs 0 0 Q (F0 m 67 ls []) := by
    intro pl x1 x2 x3 x6 k5 hk5 H locs ls h hI hl
    unfold jX6_number_67 at h
    refine lv_iconst (v := 0) hx hb dX6_number_67 rfl ?_
    exact j68 pl x1 x2 x3 x6 0 k5 hk5 _ _ _ h hI (lv_sub hl [0,1,2,3,4] rfl)
  have j36 : ∀ (pl : Int32) (x1 : Int32) (x2 : Int32) (x3 : Int32) (x5 : Int32) (s0 : Int32) (k5 : Int32 → Int32 → Int32 → Option (Int32 × Int32)) (hk5 : ∀ (H : Heap) (locs : List Loc) (ls : Array Slot) (pl_ : Int32) (x3_ : Int32) (x4_ : Int32), k5 pl_ x3_ x4_ = some (r, pl') → bw_I G A s.heap (bw_mW cy a z rows asd sm buf bm th od om ow ca bo la pl_ to rd hh) H locs → lv_has ls 7 [(0, .ref (a 0)), (1, .int x1), (2, .int x2), (3, .int x3_), (4, .int x4_)] → W p l e (bw_rm 1 22) s m [.ref (a 0), .int p1, .int p2].toArray below meth c H locs 0 0 Q (F0 m 5 ls [])) (H : Heap) (locs : List Loc) (ls : Array Slot), jX6_number_36 k5 buf bm pl x1 x2 x3 x5 s0 = some (r, pl') → bw_I G A s.heap (bw_mW cy a z rows asd sm buf bm th od om ow ca bo la pl to rd hh) H locs → lv_has ls 7 [(0, .ref (a 0)), (1, .int x1), (2, .int x2), (3, .int x3), (5, .int x5)] → W p l e (bw_rm 1 22) s m [.ref (a 0), .int p1, .int p2].toArray below meth c H locs 0 0 Q (F0 m 36 ls [.int s0]) := by
    intro pl x1 x2 x3 x5 s0 k5 hk5 H locs ls h hI hl
    unfold jX6_number_36 at h
    refine lv_istore (lv' := [(6, .int s0), (0, .ref (a 0)), (1, .int x1), (2, .int x2), (3, .int x3), (5, .int x5)]) hx hb dX6_number_36 hl (by decide) rfl (fun ls hl => ?_)
    refine lv_iload hx hb dX6_number_38 (lv_at hl 5 rfl) ?_
    refine lv_iconst (v := 0) hx hb dX6_number_40 rfl ?_
    refine lv_bipush (v := 9) hx hb dX6_number_41 (by decide) ?_
    obtain ⟨r43, hc, h⟩ := bw_b1_e h
    refine bw_callP S hK hZ hI (mX6_in l G cy g x5 0 9 r43 hc) Y_X6_in V_X6_in l_X6_35 ⟨(Nat.le_of_ble_eq_true rfl), (Nat.le_of_ble_eq_true rfl)⟩ (rest := []) (st1 := [.int r43]) rfl hl.1 rfl rfl (Nat.le_of_ble_eq_true rfl) dX6_number_43 ⟨(Nat.le_of_ble_eq_true rfl), (Nat.le_of_ble_eq_true rfl)⟩ (fun H locs hI => ?_)
    refine lv_if_eq (tgt := 67) hx hb dX6_number_46 (by decide) (fun c_46 => ?_) (fun c_46 => ?_)
    · rw [if_pos c_46] at h
      exact j67 pl x1 x2 x3 s0 k5 hk5 _ _ _ h hI (lv_sub hl [1,2,3,4,0] rfl)
    rw [if_neg c_46] at h
    refine lv_iload_n hx hb dX6_number_49 rfl (lv_at hl 4 rfl) ?_
    refine lv_if_eq (tgt := 67) hx hb dX6_number_50 (by decide) (fun c_50 => ?_) (fun c_50 => ?_)
    · rw [if_pos c_50] at h
      exact j67 pl x1 x2 x3 s0 k5 hk5 _ _ _ h hI (lv_sub hl [1,2,3,4,0] rfl)
    rw [if_neg c_50] at h
    refine lv_iload hx hb dX6_number_53 (lv_at hl 0 rfl) ?_
    refine lv_iload_n hx hb dX6_number_55 rfl (lv_at hl 2 rfl) ?_
    refine lv_iload_n hx hb dX6_number_56 rfl (lv_at hl 3 rfl) ?_
    obtain ⟨r57, hc, h⟩ := bw_b1_e h
    refine bw_callP S hK hZ hI (mX6_in l G cy g s0 x1 x2 r57 hc) Y_X6_in V_X6_in l_X6_35 ⟨(Nat.le_of_ble_eq_true rfl), (Nat.le_of_ble_eq_true rfl)⟩ (rest := []) (st1 := [.int r57]) rfl hl.1 rfl rfl (Nat.le_of_ble_eq_true rfl) dX6_number_57 ⟨(Nat.le_of_ble_eq_true rfl), (Nat.le_of_ble_eq_true rfl)⟩ (fun H locs hI => ?_)
    refine lv_if_eq (tgt := 67) hx hb dX6_number_60 (by decide) (fun c_60 => ?_) (fun c_60 => ?_)
    · rw [if_pos c_60] at h
      exact j67 pl x1 x2 x3 s0 k5 hk5 _ _ _ h hI (lv_sub hl [1,2,3,4,0] rfl)
    rw [if_neg c_60] at h
    refine lv_iconst (v := 1) hx hb dX6_number_63 rfl ?_
    refine lv_goto (tgt := 68) hx hb dX6_number_64 (by decide) ?_
    exact j68 pl x1 x2 x3 s0 1 k5 hk5 _ _ _ h hI (lv_sub hl [1,2,3,4,0] rfl)
  have l5 : ∀ (x1 : Int32) (x2 : Int32) (n : Nat) (H : Heap) (locs : List Loc) (ls : Array Slot) (pl : Int32) (x3 : Int32) (x4 : Int32), lX6_number_5 buf bm x1 x2 n pl x3 x4 = some (r, pl') → bw_I G A s.heap (bw_mW cy a z rows asd sm buf bm th od om ow ca bo la pl to rd hh) H locs → lv_has ls 7 [(0, .ref (a 0)), (1, .int x1), (2, .int x2), (3, .int x3), (4, .int x4)] → W p l e (bw_rm 1 22) s m [.ref (a 0), .int p1, .int p2].toArray below meth c H locs 0 0 Q (F0 m 5 ls []) := by
    intro x1 x2 n
    induction n with
    | zero => intro H locs ls pl x3 x4 h; exact bw_none h
    | succ n ih =>
      intro H locs ls pl x3 x4 h hI hl
      have h : bX6_number_5  (lX6_number_5 buf bm x1 x2 n) buf bm x1 x2 pl x3 x4 = some (r, pl') := h
      unfold bX6_number_5 at h
      refine lv_iload hx hb dX6_number_5 (lv_at hl 4 rfl) ?_
      refine lv_if_eq (tgt := 104) hx hb dX6_number_7 (by decide) (fun c_7 => ?_) (fun c_7 => ?_)
      · rw [if_pos c_7] at h
        refine lv_iload_n hx hb dX6_number_104 rfl (lv_at hl 3 rfl) ?_
        exact bw_iret (d := pl) (rr := (r, pl')) S hr hlocks h (fun q : Int32 => (bw_mW cy a z rows asd sm buf bm th od om ow ca bo la q to rd hh)) hI rfl dX6_number_105 hQ
      rw [if_neg c_7] at h
      refine lv_aload_n hx hb dX6_number_10 rfl (lv_at hl 0 rfl) ?_
      obtain ⟨r11, hc, h⟩ := bw_b1_e h
      refine bw_callV S hK hZ hI (mX6_next l G cy g a z rows asd sm buf bm th od om ow ca bo la pl to rd hh r11 hc) Y_X6_next V_X6_next l_X6_147 ⟨(Nat.le_of_ble_eq_true rfl), (Nat.le_of_ble_eq_true rfl)⟩ (q0 := 0) rfl rfl rfl (ws' := (bw_mW cy a z rows asd sm buf bm th od om ow ca bo la pl to rd hh)) (bw_pS _) (bw_pS' _) rfl rfl hl.1 (rest := []) (st1 := [.int r11]) rfl rfl (Nat.le_of_ble_eq_true rfl) dX6_number_11 ⟨(Nat.le_of_ble_eq_true rfl), (Nat.le_of_ble_eq_true rfl)⟩ (fun H locs hI => ?_)
      refine lv_bipush (v := 48) hx hb dX6_number_14 (by decide) ?_
      refine lv_isub hx hb dX6_number_16 ?_
      refine lv_topi (fun x5_17 e_17 => ?_)
      have h := bw_let_e h e_17
      clear e_17
      refine lv_istore (lv' := [(5, .int x5_17), (0, .ref (a 0)), (1, .int x1), (2, .int x2), (3, .int x3), (4, .int x4)]) hx hb dX6_number_17 hl (by decide) rfl (fun ls hl => ?_)
      refine lv_iload_n hx hb dX6_number_19 rfl (lv_at hl 4 rfl) ?_
      refine lv_iconst (v := (-1)) hx hb dX6_number_20 rfl ?_
      refine lv_icmp_ne (tgt := 29) hx hb dX6_number_21 (by decide) (fun c_21 => ?_) (fun c_21 => ?_)
      · rw [if_neg c_21] at h
        refine lv_bipush (v := 10) hx hb dX6_number_29 (by decide) ?_
        refine lv_iload_n hx hb dX6_number_31 rfl (lv_at hl 4 rfl) ?_
        refine lv_imul hx hb dX6_number_32 ?_
        refine lv_iload hx hb dX6_number_33 (lv_at hl 0 rfl) ?_
        refine lv_iadd hx hb dX6_number_35 ?_
        exact j36 pl x1 x2 x3 x5_17 ((10 * x3) + x5_17) (lX6_number_5 buf bm x1 x2 n) ih _ _ _ h hI (lv_sub hl [1,2,3,4,0] rfl)
      rw [if_pos c_21] at h
      refine lv_iload hx hb dX6_number_24 (lv_at hl 0 rfl) ?_
      refine lv_goto (tgt := 36) hx hb dX6_number_26 (by decide) ?_
      exact j36 pl x1 x2 x3 x5_17 x5_17 (lX6_number_5 buf bm x1 x2 n) ih _ _ _ h hI (lv_sub hl [1,2,3,4,0] rfl)
  unfold fX6_number at h
  refine lv_iconst (v := (-1)) hx hb dX6_number_0 rfl ?_
  refine lv_istore_n (lv' := [(3, .int (-1)), (0, .ref (a 0)), (1, .int p1), (2, .int p2)]) hx hb dX6_number_1 rfl hl (by decide) rfl (fun ls hl => ?_)
  refine lv_iconst (v := 1) hx hb dX6_number_2 rfl ?_
  refine lv_istore (lv' := [(4, .int 1), (3, .int (-1)), (0, .ref (a 0)), (1, .int p1), (2, .int p2)]) hx hb dX6_number_3 hl (by decide) rfl (fun ls hl => ?_)
  exact l5 p1 p2 bw_fu _ _ _ pl (-1) 1 h hI (lv_sub hl [2,3,4,1,0] rfl)
