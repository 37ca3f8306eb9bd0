set_option maxHeartbeats 4000000 in
set_option maxRecDepth 100000 in
theorem mX5_open (l : Launch) (hfl : l.stackTraces = false) (G : va_G) (cy : Nat → ClassId) (g : Nat) (b : Nat → Nat → Nat) (d : bw_A2) (t : bw_A2) (sl : bw_A3) (hn : Int32) (hs : Int32) (cs : bw_A1) (ln : Int32) (rp : Int32) (rn : Int32) (rt : Int32) (p1 : Int32) (p2 : Int32) (ec : Nat) (r : Int32) (d' : bw_A2) (sl' : bw_A3) (hn' : Int32) (hs' : Int32) (h : fX5_open d sl hn hs p1 p2 = some (ec, r, d', sl', hn', hs')) : bw_MX l yX5_open cX5_open 3 (some .int) 6 89 1 G cy g [.ref (b 8 5), .int p1, .int p2] (bw_xW cy b d t sl hn hs cs ln rp rn rt) ec (some (.int r)) (bw_xW cy b d' t sl' hn' hs' cs ln rp rn rt) := by
  refine bw_ofWX (by decide +kernel) RX5 rfl (Nat.le_of_ble_eq_true rfl) ?_
  intro p e s m below meth c ls S hr hlocks hno hK hZ hI hl
  have hx := S.1
  have hb := S.2.1
  have hown := S.2.2.2.1
  have hts := S.2.2.2.2
  generalize va_A _ s.heap.size = A at hI hZ ⊢
  generalize hQ : vx_MQ below _ _ _ s 1 (6 * 1) A = Q
  have hl : lv_has ls 3 [(0, .ref (b 8 5)), (1, .int p1), (2, .int p2)] := hl
  unfold fX5_open at h
  refine lv_iload_n hx hb dX5_open_0 rfl (lv_at hl 1 rfl) ?_
  refine lv_iconst (v := 1) hx hb dX5_open_1 rfl ?_
  refine lv_bipush (v := 9) hx hb dX5_open_2 (by decide) ?_
  obtain ⟨r4, hc, h⟩ := bw_b1_e h
  refine bw_callP S hK hZ hI (mX5_isOutside l G cy g p1 1 9 r4 hc) Y_X5_isOutside V_X5_isOutside l_X5_33 ⟨(Nat.le_of_ble_eq_true rfl), (Nat.le_of_ble_eq_true rfl)⟩ (rest := []) (st1 := [.int r4]) rfl hl.1 rfl rfl (Nat.le_of_ble_eq_true rfl) dX5_open_4 ⟨(Nat.le_of_ble_eq_true rfl), (Nat.le_of_ble_eq_true rfl)⟩ (fun H locs hI => ?_)
  refine lv_if_ne (tgt := 20) hx hb dX5_open_7 (by decide) (fun c_7 => ?_) (fun c_7 => ?_)
  · rw [if_neg c_7] at h
    exact bw_thr (dd := (0, d, sl, hn, hs)) (rr := (r, d', sl', hn', hs')) (k5 := 2) (text := "rank or buffer out of range") (rest := []) S hl.1 hZ hfl hno hlocks (by decide) h (fun q : (Int32 × bw_A2 × bw_A3 × Int32 × Int32) => (bw_xW cy b q.2.1 t q.2.2.1 q.2.2.2.1 q.2.2.2.2 cs ln rp rn rt)) (fun q : (Int32 × bw_A2 × bw_A3 × Int32 × Int32) => some (.int q.1)) hI (by decide +kernel) c_X5_37 x_2 (by decide) at_2 dX5_open_20 dX5_open_23 dX5_open_24 dX5_open_26 dX5_open_29 (Nat.le_of_ble_eq_true rfl) (Nat.le_of_ble_eq_true rfl) ⟨(Nat.le_of_ble_eq_true rfl), (Nat.le_of_ble_eq_true rfl)⟩ (Nat.le_of_ble_eq_true rfl) (Nat.le_of_ble_eq_true rfl) hQ
  rw [if_pos c_7] at h
  refine lv_iload_n hx hb dX5_open_10 rfl (lv_at hl 2 rfl) ?_
  refine lv_iconst (v := 0) hx hb dX5_open_11 rfl ?_
  refine lv_bipush (v := 99) hx hb dX5_open_12 (by decide) ?_
  obtain ⟨r14, hc, h⟩ := bw_b1_e h
  refine bw_callP S hK hZ hI (mX5_isOutside l G cy g p2 0 99 r14 hc) Y_X5_isOutside V_X5_isOutside l_X5_33 ⟨(Nat.le_of_ble_eq_true rfl), (Nat.le_of_ble_eq_true rfl)⟩ (rest := []) (st1 := [.int r14]) rfl hl.1 rfl rfl (Nat.le_of_ble_eq_true rfl) dX5_open_14 ⟨(Nat.le_of_ble_eq_true rfl), (Nat.le_of_ble_eq_true rfl)⟩ (fun H locs hI => ?_)
  refine lv_if_eq (tgt := 30) hx hb dX5_open_17 (by decide) (fun c_17 => ?_) (fun c_17 => ?_)
  · rw [if_pos c_17] at h
    refine lv_aload_n hx hb dX5_open_30 rfl (lv_at hl 0 rfl) ?_
    refine bw_get S hK hI 0 0 rfl rfl (by decide) i_X5 f_X5_12 rfl dX5_open_31 ?_
    obtain ⟨r34, hc, h⟩ := bw_b1_e h
    refine bw_callV S hK hZ hI (mX0_projects l G cy g (b 0) (d 0) (d 1) (d 2) (d 3) (d 4) (d 5 0) (d 5 1) r34 hc) Y_X0_projects V_X0_projects l_X5_44 ⟨(Nat.le_of_ble_eq_true rfl), (Nat.le_of_ble_eq_true rfl)⟩ (q0 := 0) rfl rfl rfl (ws' := (bw_xW cy b d t sl hn hs cs ln rp rn rt)) (bw_px_d cy b d t sl hn hs cs ln rp rn rt) (bw_px_d cy b d t sl hn hs cs ln rp rn rt).symm rfl rfl hl.1 (rest := []) (st1 := [.int r34]) rfl rfl (Nat.le_of_ble_eq_true rfl) dX5_open_34 ⟨(Nat.le_of_ble_eq_true rfl), (Nat.le_of_ble_eq_true rfl)⟩ (fun H locs hI => ?_)
    refine lv_bipush (v := 6) hx hb dX5_open_37 (by decide) ?_
    refine lv_icmp_lt (tgt := 52) hx hb dX5_open_39 (by decide) (fun c_39 => ?_) (fun c_39 => ?_)
    · rw [if_pos c_39] at h
      refine lv_aload_n hx hb dX5_open_52 rfl (lv_at hl 0 rfl) ?_
      refine bw_get S hK hI 0 2 rfl rfl (by decide) i_X5 f_X5_22 rfl dX5_open_53 ?_
      refine lv_aload_n hx hb dX5_open_56 rfl (lv_at hl 0 rfl) ?_
      refine bw_get S hK hI 0 0 rfl rfl (by decide) i_X5 f_X5_12 rfl dX5_open_57 ?_
      obtain ⟨sl_60, hn_60, hs_60, hc, h⟩ := bw_b3_e h
      refine bw_callV S hK hZ hI (mX1_keep l G cy g b d sl hn hs sl_60 hn_60 hs_60 hc) Y_X1_keep V_X1_keep l_X5_53 ⟨(Nat.le_of_ble_eq_true rfl), (Nat.le_of_ble_eq_true rfl)⟩ (q0 := 0) rfl rfl rfl (ws' := (bw_xW cy b d t sl_60 hn_60 hs_60 cs ln rp rn rt)) (bw_px_h cy b d t sl hn hs cs ln rp rn rt) (bw_px_h cy b d t sl_60 hn_60 hs_60 cs ln rp rn rt).symm rfl rfl hl.1 (rest := []) (st1 := []) rfl rfl (Nat.le_of_ble_eq_true rfl) dX5_open_60 ⟨(Nat.le_of_ble_eq_true rfl), (Nat.le_of_ble_eq_true rfl)⟩ (fun H locs hI => ?_)
      refine lv_aload_n hx hb dX5_open_63 rfl (lv_at hl 0 rfl) ?_
      refine bw_get S hK hI 0 0 rfl rfl (by decide) i_X5 f_X5_12 rfl dX5_open_64 ?_
      refine lv_iload_n hx hb dX5_open_67 rfl (lv_at hl 1 rfl) ?_
      refine lv_iload_n hx hb dX5_open_68 rfl (lv_at hl 2 rfl) ?_
      obtain ⟨r69, tp_69, np_69, hc, h⟩ := bw_b3_e h
      obtain ⟨d_69, e_69⟩ : ∃ z, z = (va_up (va_up d 0 tp_69) 5 (upd (d 5) 0 np_69)) := ⟨_, rfl⟩
      have h := bw_let_e h e_69
      refine bw_callV S hK hZ hI (mX0_addProject l G cy g (b 0) (d 0) (d 1) (d 2) (d 3) (d 4) (d 5 0) (d 5 1) p1 p2 r69 tp_69 np_69 hc) Y_X0_addProject V_X0_addProject l_X5_57 ⟨(Nat.le_of_ble_eq_true rfl), (Nat.le_of_ble_eq_true rfl)⟩ (q0 := 0) rfl rfl rfl (ws' := (bw_xW cy b d_69 t sl_60 hn_60 hs_60 cs ln rp rn rt)) (bw_px_d cy b d t sl_60 hn_60 hs_60 cs ln rp rn rt) (by rw [e_69]; exact (bw_px_d cy b (va_up (va_up d 0 tp_69) 5 (upd (d 5) 0 np_69)) t sl_60 hn_60 hs_60 cs ln rp rn rt).symm) rfl rfl hl.1 (rest := []) (st1 := [.int r69]) rfl rfl (Nat.le_of_ble_eq_true rfl) dX5_open_69 ⟨(Nat.le_of_ble_eq_true rfl), (Nat.le_of_ble_eq_true rfl)⟩ (fun H locs hI => ?_)
      clear e_69
      exact bw_iretX (dd := (r69, d_69, sl_60, hn_60, hs_60)) (rr := (r, d', sl', hn', hs')) S hr hlocks h (fun q : (Int32 × bw_A2 × bw_A3 × Int32 × Int32) => (bw_xW cy b q.2.1 t q.2.2.1 q.2.2.2.1 q.2.2.2.2 cs ln rp rn rt)) (fun q : (Int32 × bw_A2 × bw_A3 × Int32 × Int32) => some (.int q.1)) rfl hI rfl (Nat.le_of_ble_eq_true rfl) (Nat.le_of_ble_eq_true rfl) dX5_open_72 hQ
    rw [if_neg c_39] at h
    exact bw_thr (dd := (0, d, sl, hn, hs)) (rr := (r, d', sl', hn', hs')) (k5 := 3) (text := "too many projects") (rest := []) S hl.1 hZ hfl hno hlocks (by decide) h (fun q : (Int32 × bw_A2 × bw_A3 × Int32 × Int32) => (bw_xW cy b q.2.1 t q.2.2.1 q.2.2.2.1 q.2.2.2.2 cs ln rp rn rt)) (fun q : (Int32 × bw_A2 × bw_A3 × Int32 × Int32) => some (.int q.1)) hI (by decide +kernel) c_X5_48 x_3 (by decide) at_3 dX5_open_42 dX5_open_45 dX5_open_46 dX5_open_48 dX5_open_51 (Nat.le_of_ble_eq_true rfl) (Nat.le_of_ble_eq_true rfl) ⟨(Nat.le_of_ble_eq_true rfl), (Nat.le_of_ble_eq_true rfl)⟩ (Nat.le_of_ble_eq_true rfl) (Nat.le_of_ble_eq_true rfl) hQ
  rw [if_neg c_17] at h
  exact bw_thr (dd := (0, d, sl, hn, hs)) (rr := (r, d', sl', hn', hs')) (k5 := 2) (text := "rank or buffer out of range") (rest := []) S hl.1 hZ hfl hno hlocks (by decide) h (fun q : (Int32 × bw_A2 × bw_A3 × Int32 × Int32) => (bw_xW cy b q.2.1 t q.2.2.1 q.2.2.2.1 q.2.2.2.2 cs ln rp rn rt)) (fun q : (Int32 × bw_A2 × bw_A3 × Int32 × Int32) => some (.int q.1)) hI (by decide +kernel) c_X5_37 x_2 (by decide) at_2 dX5_open_20 dX5_open_23 dX5_open_24 dX5_open_26 dX5_open_29 (Nat.le_of_ble_eq_true rfl) (Nat.le_of_ble_eq_true rfl) ⟨(Nat.le_of_ble_eq_true rfl), (Nat.le_of_ble_eq_true rfl)⟩ (Nat.le_of_ble_eq_true rfl) (Nat.le_of_ble_eq_true rfl) hQ
set_option maxHeartbeats 4000000 in
set_option maxRecDepth 100000 in
theorem mX5_needProject (l : Launch) (hfl : l.stackTraces = false) (G : va_G) (cy : Nat → ClassId) (g : Nat) (b : Nat → Nat → Nat) (d : bw_A2) (t : bw_A2) (sl : bw_A3) (hn : Int32) (hs : Int32) (cs : bw_A1) (ln : Int32) (rp : Int32) (rn : Int32) (rt : Int32) (p1 : Int32) (ec : Nat) (h : fX5_needProject d p1 = some ec) : bw_MX l yX5_needProject cX5_needProject 2 none 6 82 1 G cy g [.ref (b 8 5), .int p1] (bw_xW cy b d t sl hn hs cs ln rp rn rt) ec none (bw_xW cy b d t sl hn hs cs ln rp rn rt) := by
  refine bw_ofWX (by decide +kernel) RX5 rfl (Nat.le_of_ble_eq_true rfl) ?_
  intro p e s m below meth c ls S hr hlocks hno hK hZ hI hl
  have hx := S.1
  have hb := S.2.1
  have hown := S.2.2.2.1
  have hts := S.2.2.2.2
  generalize va_A _ s.heap.size = A at hI hZ ⊢
  generalize hQ : vx_MQ below _ _ _ s 1 (6 * 1) A = Q
  have hl : lv_has ls 2 [(0, .ref (b 8 5)), (1, .int p1)] := hl
  unfold fX5_needProject at h
  refine lv_iload_n hx hb dX5_needProject_0 rfl (lv_at hl 1 rfl) ?_
  refine lv_iconst (v := 0) hx hb dX5_needProject_1 rfl ?_
  refine lv_aload_n hx hb dX5_needProject_2 rfl (lv_at hl 0 rfl) ?_
  refine bw_get S hK hI 0 0 rfl rfl (by decide) i_X5 f_X5_12 rfl dX5_needProject_3 ?_
  obtain ⟨r6, hc, h⟩ := bw_b1_e h
  refine bw_callV S hK hZ hI (mX0_projects l G cy g (b 0) (d 0) (d 1) (d 2) (d 3) (d 4) (d 5 0) (d 5 1) r6 hc) Y_X0_projects V_X0_projects l_X5_44 ⟨(Nat.le_of_ble_eq_true rfl), (Nat.le_of_ble_eq_true rfl)⟩ (q0 := 0) rfl rfl rfl (ws' := (bw_xW cy b d t sl hn hs cs ln rp rn rt)) (bw_px_d cy b d t sl hn hs cs ln rp rn rt) (bw_px_d cy b d t sl hn hs cs ln rp rn rt).symm rfl rfl hl.1 (rest := [.int 0, .int p1]) (st1 := [.int r6, .int 0, .int p1]) rfl rfl (Nat.le_of_ble_eq_true rfl) dX5_needProject_6 ⟨(Nat.le_of_ble_eq_true rfl), (Nat.le_of_ble_eq_true rfl)⟩ (fun H locs hI => ?_)
  refine lv_iconst (v := 1) hx hb dX5_needProject_9 rfl ?_
  refine lv_isub hx hb dX5_needProject_10 ?_
  obtain ⟨r11, hc, h⟩ := bw_b1_e h
  refine bw_callP S hK hZ hI (mX5_isOutside l G cy g p1 0 (r6 - 1) r11 hc) Y_X5_isOutside V_X5_isOutside l_X5_33 ⟨(Nat.le_of_ble_eq_true rfl), (Nat.le_of_ble_eq_true rfl)⟩ (rest := []) (st1 := [.int r11]) rfl hl.1 rfl rfl (Nat.le_of_ble_eq_true rfl) dX5_needProject_11 ⟨(Nat.le_of_ble_eq_true rfl), (Nat.le_of_ble_eq_true rfl)⟩ (fun H locs hI => ?_)
  refine lv_if_eq (tgt := 27) hx hb dX5_needProject_14 (by decide) (fun c_14 => ?_) (fun c_14 => ?_)
  · rw [if_pos c_14] at h
    exact bw_vretX S hr hlocks h hI (Nat.le_of_ble_eq_true rfl) (Nat.le_of_ble_eq_true rfl) dX5_needProject_27 hQ
  rw [if_neg c_14] at h
  exact bw_thr (dd := ()) (rr := ()) (k5 := 1) (text := "no such project") (rest := []) S hl.1 hZ hfl hno hlocks (by decide) (by rw [← Option.some.inj h]) (fun _ => (bw_xW cy b d t sl hn hs cs ln rp rn rt)) (fun _ => none) hI (by decide +kernel) c_X5_170 x_1 (by decide) at_1 dX5_needProject_17 dX5_needProject_20 dX5_needProject_21 dX5_needProject_23 dX5_needProject_26 (Nat.le_of_ble_eq_true rfl) (Nat.le_of_ble_eq_true rfl) ⟨(Nat.le_of_ble_eq_true rfl), (Nat.le_of_ble_eq_true rfl)⟩ (Nat.le_of_ble_eq_true rfl) (Nat.le_of_ble_eq_true rfl) hQ
set_option maxHeartbeats 4000000 in
set_option maxRecDepth 100000 in
theorem mX5_plan (l : Launch) (hfl : l.stackTraces = false) (G : va_G) (cy : Nat → ClassId) (g : Nat) (b : Nat → Nat → Nat) (d : bw_A2) (t : bw_A2) (sl : bw_A3) (hn : Int32) (hs : Int32) (cs : bw_A1) (ln : Int32) (rp : Int32) (rn : Int32) (rt : Int32) (p1 : Int32) (p2 : Int32) (ec : Nat) (r : Int32) (d' : bw_A2) (sl' : bw_A3) (hn' : Int32) (hs' : Int32) (h : fX5_plan d sl hn hs p1 p2 = some (ec, r, d', sl', hn', hs')) : bw_MX l yX5_plan cX5_plan 3 (some .int) 7 103 2 G cy g [.ref (b 8 5), .int p1, .int p2] (bw_xW cy b d t sl hn hs cs ln rp rn rt) ec (some (.int r)) (bw_xW cy b d' t sl' hn' hs' cs ln rp rn rt) := by
  refine bw_ofWX (by decide +kernel) RX5 rfl (Nat.le_of_ble_eq_true rfl) ?_
  intro p e s m below meth c ls S hr hlocks hno hK hZ hI hl
  have hx := S.1
  have hb := S.2.1
  have hown := S.2.2.2.1
  have hts := S.2.2.2.2
  generalize va_A _ s.heap.size = A at hI hZ ⊢
  generalize hQ : vx_MQ below _ _ _ s 2 (6 * 2) A = Q
  have hl : lv_has ls 3 [(0, .ref (b 8 5)), (1, .int p1), (2, .int p2)] := hl
  unfold fX5_plan at h
  refine lv_aload_n hx hb dX5_plan_0 rfl (lv_at hl 0 rfl) ?_
  refine lv_iload_n hx hb dX5_plan_1 rfl (lv_at hl 1 rfl) ?_
  obtain ⟨k2, hc, h⟩ := bw_b1_e h
  refine bw_callVX S hK hZ hI (mX5_needProject l hfl G cy g b d t sl hn hs cs ln rp rn rt p1 k2 hc) Y_X5_needProject V_X5_needProject l_X5_61 ⟨(Nat.le_of_ble_eq_true rfl), (Nat.le_of_ble_eq_true rfl)⟩ (q0 := 0) rfl rfl rfl (ws' := (bw_xW cy b d t sl hn hs cs ln rp rn rt)) (bw_pS _) (bw_pS' _) rfl rfl hl.1 (rest := []) (st1 := []) rfl rfl (Nat.le_of_ble_eq_true rfl) dX5_plan_2 ⟨(Nat.le_of_ble_eq_true rfl), (Nat.le_of_ble_eq_true rfl)⟩ (fun h0 q ce H locs hI h1 h2 h3 => ?_) (fun h0 H locs hI => ?_)
  · have h := bw_thn_f h h0
    exact bw_outX (dd := (0, d, sl, hn, hs)) (rr := (r, d', sl', hn', hs')) hno hlocks h0 h (fun q : (Int32 × bw_A2 × bw_A3 × Int32 × Int32) => (bw_xW cy b q.2.1 t q.2.2.1 q.2.2.2.1 q.2.2.2.2 cs ln rp rn rt)) (fun q : (Int32 × bw_A2 × bw_A3 × Int32 × Int32) => some (.int q.1)) hI h1 h2 h3 (Nat.le_of_ble_eq_true rfl) (Nat.le_of_ble_eq_true rfl) hQ
  have h := bw_thn_t h h0
  refine lv_iload_n hx hb dX5_plan_5 rfl (lv_at hl 2 rfl) ?_
  refine lv_iconst (v := 1) hx hb dX5_plan_6 rfl ?_
  refine lv_bipush (v := 60) hx hb dX5_plan_7 (by decide) ?_
  obtain ⟨r9, hc, h⟩ := bw_b1_e h
  refine bw_callP S hK hZ hI (mX5_isOutside l G cy g p2 1 60 r9 hc) Y_X5_isOutside V_X5_isOutside l_X5_33 ⟨(Nat.le_of_ble_eq_true rfl), (Nat.le_of_ble_eq_true rfl)⟩ (rest := []) (st1 := [.int r9]) rfl hl.1 rfl rfl (Nat.le_of_ble_eq_true rfl) dX5_plan_9 ⟨(Nat.le_of_ble_eq_true rfl), (Nat.le_of_ble_eq_true rfl)⟩ (fun H locs hI => ?_)
  refine lv_if_eq (tgt := 25) hx hb dX5_plan_12 (by decide) (fun c_12 => ?_) (fun c_12 => ?_)
  · rw [if_pos c_12] at h
    refine lv_aload_n hx hb dX5_plan_25 rfl (lv_at hl 0 rfl) ?_
    refine bw_get S hK hI 0 0 rfl rfl (by decide) i_X5 f_X5_12 rfl dX5_plan_26 ?_
    refine lv_iload_n hx hb dX5_plan_29 rfl (lv_at hl 1 rfl) ?_
    obtain ⟨r30, hc, h⟩ := bw_b1_e h
    refine bw_callV S hK hZ hI (mX0_isOpen l G cy g (b 0) (d 0) (d 1) (d 2) (d 3) (d 4) (d 5 0) (d 5 1) p1 r30 hc) Y_X0_isOpen V_X0_isOpen l_X5_67 ⟨(Nat.le_of_ble_eq_true rfl), (Nat.le_of_ble_eq_true rfl)⟩ (q0 := 0) rfl rfl rfl (ws' := (bw_xW cy b d t sl hn hs cs ln rp rn rt)) (bw_px_d cy b d t sl hn hs cs ln rp rn rt) (bw_px_d cy b d t sl hn hs cs ln rp rn rt).symm rfl rfl hl.1 (rest := []) (st1 := [.int r30]) rfl rfl (Nat.le_of_ble_eq_true rfl) dX5_plan_30 ⟨(Nat.le_of_ble_eq_true rfl), (Nat.le_of_ble_eq_true rfl)⟩ (fun H locs hI => ?_)
    refine lv_if_eq (tgt := 51) hx hb dX5_plan_33 (by decide) (fun c_33 => ?_) (fun c_33 => ?_)
    · rw [if_pos c_33] at h
      exact bw_thr (dd := (0, d, sl, hn, hs)) (rr := (r, d', sl', hn', hs')) (k5 := 3) (text := "project closed or with too many tasks") (rest := []) S hl.1 hZ hfl hno hlocks (by decide) h (fun q : (Int32 × bw_A2 × bw_A3 × Int32 × Int32) => (bw_xW cy b q.2.1 t q.2.2.1 q.2.2.2.1 q.2.2.2.2 cs ln rp rn rt)) (fun q : (Int32 × bw_A2 × bw_A3 × Int32 × Int32) => some (.int q.1)) hI (by decide +kernel) c_X5_48 x_3 (by decide) at_3 dX5_plan_51 dX5_plan_54 dX5_plan_55 dX5_plan_57 dX5_plan_60 (Nat.le_of_ble_eq_true rfl) (Nat.le_of_ble_eq_true rfl) ⟨(Nat.le_of_ble_eq_true rfl), (Nat.le_of_ble_eq_true rfl)⟩ (Nat.le_of_ble_eq_true rfl) (Nat.le_of_ble_eq_true rfl) hQ
    rw [if_neg c_33] at h
    refine lv_aload_n hx hb dX5_plan_36 rfl (lv_at hl 0 rfl) ?_
    refine bw_get S hK hI 0 0 rfl rfl (by decide) i_X5 f_X5_12 rfl dX5_plan_37 ?_
    refine lv_iload_n hx hb dX5_plan_40 rfl (lv_at hl 1 rfl) ?_
    refine lv_bipush (v := 7) hx hb dX5_plan_41 (by decide) ?_
    obtain ⟨r43, hc, h⟩ := bw_b1_e h
    refine bw_callV S hK hZ hI (mX0_projectPart l G cy g (b 0) (d 0) (d 1) (d 2) (d 3) (d 4) (d 5 0) (d 5 1) p1 7 r43 hc) Y_X0_projectPart V_X0_projectPart l_X5_71 ⟨(Nat.le_of_ble_eq_true rfl), (Nat.le_of_ble_eq_true rfl)⟩ (q0 := 0) rfl rfl rfl (ws' := (bw_xW cy b d t sl hn hs cs ln rp rn rt)) (bw_px_d cy b d t sl hn hs cs ln rp rn rt) (bw_px_d cy b d t sl hn hs cs ln rp rn rt).symm rfl rfl hl.1 (rest := []) (st1 := [.int r43]) rfl rfl (Nat.le_of_ble_eq_true rfl) dX5_plan_43 ⟨(Nat.le_of_ble_eq_true rfl), (Nat.le_of_ble_eq_true rfl)⟩ (fun H locs hI => ?_)
    refine lv_bipush (v := 8) hx hb dX5_plan_46 (by decide) ?_
    refine lv_icmp_lt (tgt := 61) hx hb dX5_plan_48 (by decide) (fun c_48 => ?_) (fun c_48 => ?_)
    · rw [if_pos c_48] at h
      refine lv_aload_n hx hb dX5_plan_61 rfl (lv_at hl 0 rfl) ?_
      refine bw_get S hK hI 0 2 rfl rfl (by decide) i_X5 f_X5_22 rfl dX5_plan_62 ?_
      refine lv_aload_n hx hb dX5_plan_65 rfl (lv_at hl 0 rfl) ?_
      refine bw_get S hK hI 0 0 rfl rfl (by decide) i_X5 f_X5_12 rfl dX5_plan_66 ?_
      obtain ⟨sl_69, hn_69, hs_69, hc, h⟩ := bw_b3_e h
      refine bw_callV S hK hZ hI (mX1_keep l G cy g b d sl hn hs sl_69 hn_69 hs_69 hc) Y_X1_keep V_X1_keep l_X5_53 ⟨(Nat.le_of_ble_eq_true rfl), (Nat.le_of_ble_eq_true rfl)⟩ (q0 := 0) rfl rfl rfl (ws' := (bw_xW cy b d t sl_69 hn_69 hs_69 cs ln rp rn rt)) (bw_px_h cy b d t sl hn hs cs ln rp rn rt) (bw_px_h cy b d t sl_69 hn_69 hs_69 cs ln rp rn rt).symm rfl rfl hl.1 (rest := []) (st1 := []) rfl rfl (Nat.le_of_ble_eq_true rfl) dX5_plan_69 ⟨(Nat.le_of_ble_eq_true rfl), (Nat.le_of_ble_eq_true rfl)⟩ (fun H locs hI => ?_)
      refine lv_aload_n hx hb dX5_plan_72 rfl (lv_at hl 0 rfl) ?_
      refine bw_get S hK hI 0 0 rfl rfl (by decide) i_X5 f_X5_12 rfl dX5_plan_73 ?_
      refine lv_iload_n hx hb dX5_plan_76 rfl (lv_at hl 1 rfl) ?_
      refine lv_iload_n hx hb dX5_plan_77 rfl (lv_at hl 2 rfl) ?_
      obtain ⟨r78, tp_78, tk_78, hc, h⟩ := bw_b3_e h
      obtain ⟨d_78, e_78⟩ : ∃ z, z = (va_up (va_up d 0 tp_78) 1 tk_78) := ⟨_, rfl⟩
      have h := bw_let_e h e_78
      refine bw_callV S hK hZ hI (mX0_addTask l G cy g (b 0) (d 0) (d 1) (d 2) (d 3) (d 4) (d 5 0) (d 5 1) p1 p2 r78 tp_78 tk_78 hc) Y_X0_addTask V_X0_addTask l_X5_76 ⟨(Nat.le_of_ble_eq_true rfl), (Nat.le_of_ble_eq_true rfl)⟩ (q0 := 0) rfl rfl rfl (ws' := (bw_xW cy b d_78 t sl_69 hn_69 hs_69 cs ln rp rn rt)) (bw_px_d cy b d t sl_69 hn_69 hs_69 cs ln rp rn rt) (by rw [e_78]; exact (bw_px_d cy b (va_up (va_up d 0 tp_78) 1 tk_78) t sl_69 hn_69 hs_69 cs ln rp rn rt).symm) rfl rfl hl.1 (rest := []) (st1 := [.int r78]) rfl rfl (Nat.le_of_ble_eq_true rfl) dX5_plan_78 ⟨(Nat.le_of_ble_eq_true rfl), (Nat.le_of_ble_eq_true rfl)⟩ (fun H locs hI => ?_)
      clear e_78
      exact bw_iretX (dd := (r78, d_78, sl_69, hn_69, hs_69)) (rr := (r, d', sl', hn', hs')) S hr hlocks h (fun q : (Int32 × bw_A2 × bw_A3 × Int32 × Int32) => (bw_xW cy b q.2.1 t q.2.2.1 q.2.2.2.1 q.2.2.2.2 cs ln rp rn rt)) (fun q : (Int32 × bw_A2 × bw_A3 × Int32 × Int32) => some (.int q.1)) rfl hI rfl (Nat.le_of_ble_eq_true rfl) (Nat.le_of_ble_eq_true rfl) dX5_plan_81 hQ
    rw [if_neg c_48] at h
    exact bw_thr (dd := (0, d, sl, hn, hs)) (rr := (r, d', sl', hn', hs')) (k5 := 3) (text := "project closed or with too many tasks") (rest := []) S hl.1 hZ hfl hno hlocks (by decide) h (fun q : (Int32 × bw_A2 × bw_A3 × Int32 × Int32) => (bw_xW cy b q.2.1 t q.2.2.1 q.2.2.2.1 q.2.2.2.2 cs ln rp rn rt)) (fun q : (Int32 × bw_A2 × bw_A3 × Int32 × Int32) => some (.int q.1)) hI (by decide +kernel) c_X5_48 x_3 (by decide) at_3 dX5_plan_51 dX5_plan_54 dX5_plan_55 dX5_plan_57 dX5_plan_60 (Nat.le_of_ble_eq_true rfl) (Nat.le_of_ble_eq_true rfl) ⟨(Nat.le_of_ble_eq_true rfl), (Nat.le_of_ble_eq_true rfl)⟩ (Nat.le_of_ble_eq_true rfl) (Nat.le_of_ble_eq_true rfl) hQ
  rw [if_neg c_12] at h
  exact bw_thr (dd := (0, d, sl, hn, hs)) (rr := (r, d', sl', hn', hs')) (k5 := 2) (text := "days out of range") (rest := []) S hl.1 hZ hfl hno hlocks (by decide) h (fun q : (Int32 × bw_A2 × bw_A3 × Int32 × Int32) => (bw_xW cy b q.2.1 t q.2.2.1 q.2.2.2.1 q.2.2.2.2 cs ln rp rn rt)) (fun q : (Int32 × bw_A2 × bw_A3 × Int32 × Int32) => some (.int q.1)) hI (by decide +kernel) c_X5_37 x_2 (by decide) at_2 dX5_plan_15 dX5_plan_18 dX5_plan_19 dX5_plan_21 dX5_plan_24 (Nat.le_of_ble_eq_true rfl) (Nat.le_of_ble_eq_true rfl) ⟨(Nat.le_of_ble_eq_true rfl), (Nat.le_of_ble_eq_true rfl)⟩ (Nat.le_of_ble_eq_true rfl) (Nat.le_of_ble_eq_true rfl) hQ
set_option maxHeartbeats 4000000 in
set_option maxRecDepth 100000 in
theorem mX5_rank (l : Launch) (hfl : l.stackTraces = false) (G : va_G) (cy : Nat → ClassId) (g : Nat) (b : Nat → Nat → Nat) (d : bw_A2) (t : bw_A2) (sl : bw_A3) (hn : Int32) (hs : Int32) (cs : bw_A1) (ln : Int32) (rp : Int32) (rn : Int32) (rt : Int32) (p1 : Int32) (p2 : Int32) (ec : Nat) (r : Int32) (d' : bw_A2) (sl' : bw_A3) (hn' : Int32) (hs' : Int32) (h : fX5_rank d sl hn hs p1 p2 = some (ec, r, d', sl', hn', hs')) : bw_MX l yX5_rank cX5_rank 3 (some .int) 7 103 2 G cy g [.ref (b 8 5), .int p1, .int p2] (bw_xW cy b d t sl hn hs cs ln rp rn rt) ec (some (.int r)) (bw_xW cy b d' t sl' hn' hs' cs ln rp rn rt) := by
  refine bw_ofWX (by decide +kernel) RX5 rfl (Nat.le_of_ble_eq_true rfl) ?_
  intro p e s m below meth c ls S hr hlocks hno hK hZ hI hl
  have hx := S.1
  have hb := S.2.1
  have hown := S.2.2.2.1
  have hts := S.2.2.2.2
  generalize va_A _ s.heap.size = A at hI hZ ⊢
  generalize hQ : vx_MQ below _ _ _ s 2 (6 * 2) A = Q
  have hl : lv_has ls 3 [(0, .ref (b 8 5)), (1, .int p1), (2, .int p2)] := hl
  unfold fX5_rank at h
  refine lv_aload_n hx hb dX5_rank_0 rfl (lv_at hl 0 rfl) ?_
  refine lv_iload_n hx hb dX5_rank_1 rfl (lv_at hl 1 rfl) ?_
  obtain ⟨k2, hc, h⟩ := bw_b1_e h
  refine bw_callVX S hK hZ hI (mX5_needProject l hfl G cy g b d t sl hn hs cs ln rp rn rt p1 k2 hc) Y_X5_needProject V_X5_needProject l_X5_61 ⟨(Nat.le_of_ble_eq_true rfl), (Nat.le_of_ble_eq_true rfl)⟩ (q0 := 0) rfl rfl rfl (ws' := (bw_xW cy b d t sl hn hs cs ln rp rn rt)) (bw_pS _) (bw_pS' _) rfl rfl hl.1 (rest := []) (st1 := []) rfl rfl (Nat.le_of_ble_eq_true rfl) dX5_rank_2 ⟨(Nat.le_of_ble_eq_true rfl), (Nat.le_of_ble_eq_true rfl)⟩ (fun h0 q ce H locs hI h1 h2 h3 => ?_) (fun h0 H locs hI => ?_)
  · have h := bw_thn_f h h0
    exact bw_outX (dd := (0, d, sl, hn, hs)) (rr := (r, d', sl', hn', hs')) hno hlocks h0 h (fun q : (Int32 × bw_A2 × bw_A3 × Int32 × Int32) => (bw_xW cy b q.2.1 t q.2.2.1 q.2.2.2.1 q.2.2.2.2 cs ln rp rn rt)) (fun q : (Int32 × bw_A2 × bw_A3 × Int32 × Int32) => some (.int q.1)) hI h1 h2 h3 (Nat.le_of_ble_eq_true rfl) (Nat.le_of_ble_eq_true rfl) hQ
  have h := bw_thn_t h h0
  refine lv_iload_n hx hb dX5_rank_5 rfl (lv_at hl 2 rfl) ?_
  refine lv_iconst (v := 1) hx hb dX5_rank_6 rfl ?_
  refine lv_bipush (v := 9) hx hb dX5_rank_7 (by decide) ?_
  obtain ⟨r9, hc, h⟩ := bw_b1_e h
  refine bw_callP S hK hZ hI (mX5_isOutside l G cy g p2 1 9 r9 hc) Y_X5_isOutside V_X5_isOutside l_X5_33 ⟨(Nat.le_of_ble_eq_true rfl), (Nat.le_of_ble_eq_true rfl)⟩ (rest := []) (st1 := [.int r9]) rfl hl.1 rfl rfl (Nat.le_of_ble_eq_true rfl) dX5_rank_9 ⟨(Nat.le_of_ble_eq_true rfl), (Nat.le_of_ble_eq_true rfl)⟩ (fun H locs hI => ?_)
  refine lv_if_eq (tgt := 25) hx hb dX5_rank_12 (by decide) (fun c_12 => ?_) (fun c_12 => ?_)
  · rw [if_pos c_12] at h
    refine lv_aload_n hx hb dX5_rank_25 rfl (lv_at hl 0 rfl) ?_
    refine bw_get S hK hI 0 2 rfl rfl (by decide) i_X5 f_X5_22 rfl dX5_rank_26 ?_
    refine lv_aload_n hx hb dX5_rank_29 rfl (lv_at hl 0 rfl) ?_
    refine bw_get S hK hI 0 0 rfl rfl (by decide) i_X5 f_X5_12 rfl dX5_rank_30 ?_
    obtain ⟨sl_33, hn_33, hs_33, hc, h⟩ := bw_b3_e h
    refine bw_callV S hK hZ hI (mX1_keep l G cy g b d sl hn hs sl_33 hn_33 hs_33 hc) Y_X1_keep V_X1_keep l_X5_53 ⟨(Nat.le_of_ble_eq_true rfl), (Nat.le_of_ble_eq_true rfl)⟩ (q0 := 0) rfl rfl rfl (ws' := (bw_xW cy b d t sl_33 hn_33 hs_33 cs ln rp rn rt)) (bw_px_h cy b d t sl hn hs cs ln rp rn rt) (bw_px_h cy b d t sl_33 hn_33 hs_33 cs ln rp rn rt).symm rfl rfl hl.1 (rest := []) (st1 := []) rfl rfl (Nat.le_of_ble_eq_true rfl) dX5_rank_33 ⟨(Nat.le_of_ble_eq_true rfl), (Nat.le_of_ble_eq_true rfl)⟩ (fun H locs hI => ?_)
    refine lv_aload_n hx hb dX5_rank_36 rfl (lv_at hl 0 rfl) ?_
    refine bw_get S hK hI 0 0 rfl rfl (by decide) i_X5 f_X5_12 rfl dX5_rank_37 ?_
    refine lv_iload_n hx hb dX5_rank_40 rfl (lv_at hl 1 rfl) ?_
    refine lv_iload_n hx hb dX5_rank_41 rfl (lv_at hl 2 rfl) ?_
    obtain ⟨r42, tp_42, hc, h⟩ := bw_b2_e h
    obtain ⟨d_42, e_42⟩ : ∃ z, z = (va_up d 0 tp_42) := ⟨_, rfl⟩
    have h := bw_let_e h e_42
    refine bw_callV S hK hZ hI (mX0_changeRank l G cy g (b 0) (d 0) (d 1) (d 2) (d 3) (d 4) (d 5 0) (d 5 1) p1 p2 r42 tp_42 hc) Y_X0_changeRank V_X0_changeRank l_X5_81 ⟨(Nat.le_of_ble_eq_true rfl), (Nat.le_of_ble_eq_true rfl)⟩ (q0 := 0) rfl rfl rfl (ws' := (bw_xW cy b d_42 t sl_33 hn_33 hs_33 cs ln rp rn rt)) (bw_px_d cy b d t sl_33 hn_33 hs_33 cs ln rp rn rt) (by rw [e_42]; exact (bw_px_d cy b (va_up d 0 tp_42) t sl_33 hn_33 hs_33 cs ln rp rn rt).symm) rfl rfl hl.1 (rest := []) (st1 := [.int r42]) rfl rfl (Nat.le_of_ble_eq_true rfl) dX5_rank_42 ⟨(Nat.le_of_ble_eq_true rfl), (Nat.le_of_ble_eq_true rfl)⟩ (fun H locs hI => ?_)
    clear e_42
    exact bw_iretX (dd := (r42, d_42, sl_33, hn_33, hs_33)) (rr := (r, d', sl', hn', hs')) S hr hlocks h (fun q : (Int32 × bw_A2 × bw_A3 × Int32 × Int32) => (bw_xW cy b q.2.1 t q.2.2.1 q.2.2.2.1 q.2.2.2.2 cs ln rp rn rt)) (fun q : (Int32 × bw_A2 × bw_A3 × Int32 × Int32) => some (.int q.1)) rfl hI rfl (Nat.le_of_ble_eq_true rfl) (Nat.le_of_ble_eq_true rfl) dX5_rank_45 hQ
  rw [if_neg c_12] at h
  exact bw_thr (dd := (0, d, sl, hn, hs)) (rr := (r, d', sl', hn', hs')) (k5 := 2) (text := "rank out of range") (rest := []) S hl.1 hZ hfl hno hlocks (by decide) h (fun q : (Int32 × bw_A2 × bw_A3 × Int32 × Int32) => (bw_xW cy b q.2.1 t q.2.2.1 q.2.2.2.1 q.2.2.2.2 cs ln rp rn rt)) (fun q : (Int32 × bw_A2 × bw_A3 × Int32 × Int32) => some (.int q.1)) hI (by decide +kernel) c_X5_37 x_2 (by decide) at_2 dX5_rank_15 dX5_rank_18 dX5_rank_19 dX5_rank_21 dX5_rank_24 (Nat.le_of_ble_eq_true rfl) (Nat.le_of_ble_eq_true rfl) ⟨(Nat.le_of_ble_eq_true rfl), (Nat.le_of_ble_eq_true rfl)⟩ (Nat.le_of_ble_eq_true rfl) (Nat.le_of_ble_eq_true rfl) hQ
set_option maxHeartbeats 4000000 in
set_option maxRecDepth 100000 in
theorem mX5_needSetting (l : Launch) (hfl : l.stackTraces = false) (G : va_G) (cy : Nat → ClassId) (g : Nat) (p0 : Int32) (ec : Nat) (h : fX5_needSetting p0 = some ec) : bw_MX l yX5_needSetting cX5_needSetting 1 none 6 82 1 G cy g [.int p0] [] ec none [] := by
  refine bw_ofWX (by decide +kernel) RX5 rfl (Nat.le_of_ble_eq_true rfl) ?_
  intro p e s m below meth c ls S hr hlocks hno hK hZ hI hl
  have hx := S.1
  have hb := S.2.1
  have hown := S.2.2.2.1
  have hts := S.2.2.2.2
  generalize va_A _ s.heap.size = A at hI hZ ⊢
  generalize hQ : vx_MQ below _ _ _ s 1 (6 * 1) A = Q
  have hl : lv_has ls 1 [(0, .int p0)] := hl
  unfold fX5_needSetting at h
  refine lv_iload_n hx hb dX5_needSetting_0 rfl (lv_at hl 0 rfl) ?_
  refine lv_iconst (v := 0) hx hb dX5_needSetting_1 rfl ?_
  refine bw_gets S hZ hI f_X5_232 dX5_needSetting_2 ?_
  refine bw_slen hx hb hZ hI dX5_needSetting_5 ?_
  refine lv_iconst (v := 1) hx hb dX5_needSetting_6 rfl ?_
  refine lv_isub hx hb dX5_needSetting_7 ?_
  obtain ⟨r8, hc, h⟩ := bw_b1_e h
  refine bw_callP S hK hZ hI (mX5_isOutside l G cy g p0 0 (3 - 1) r8 hc) Y_X5_isOutside V_X5_isOutside l_X5_33 ⟨(Nat.le_of_ble_eq_true rfl), (Nat.le_of_ble_eq_true rfl)⟩ (rest := []) (st1 := [.int r8]) rfl hl.1 rfl rfl (Nat.le_of_ble_eq_true rfl) dX5_needSetting_8 ⟨(Nat.le_of_ble_eq_true rfl), (Nat.le_of_ble_eq_true rfl)⟩ (fun H locs hI => ?_)
  refine lv_if_eq (tgt := 25) hx hb dX5_needSetting_11 (by decide) (fun c_11 => ?_) (fun c_11 => ?_)
  · rw [if_pos c_11] at h
    exact bw_vretX S hr hlocks h hI (Nat.le_of_ble_eq_true rfl) (Nat.le_of_ble_eq_true rfl) dX5_needSetting_25 hQ
  rw [if_neg c_11] at h
  exact bw_thrW (dd := ()) (rr := ()) (k5 := 1) (text := "no such setting") (rest := []) S hl.1 hZ hfl hno hlocks (by decide) (by rw [← Option.some.inj h]) (fun _ => []) (fun _ => none) hI (by decide +kernel) c_X5_170 x_1 (by decide) at_1 dX5_needSetting_14 dX5_needSetting_17 dX5_needSetting_18 dX5_needSetting_21 dX5_needSetting_24 (Nat.le_of_ble_eq_true rfl) (Nat.le_of_ble_eq_true rfl) ⟨(Nat.le_of_ble_eq_true rfl), (Nat.le_of_ble_eq_true rfl)⟩ (Nat.le_of_ble_eq_true rfl) (Nat.le_of_ble_eq_true rfl) hQ
set_option maxHeartbeats 4000000 in
set_option maxRecDepth 100000 in
theorem mX5_greatestValue (l : Launch) (G : va_G) (cy : Nat → ClassId) (g : Nat) (p0 : Int32) (r : Int32) (h : fX5_greatestValue p0 = some r) : bw_M l yX5_greatestValue cX5_greatestValue 1 (some .int) 0 0 G cy g [.int p0] [] (some (.int r)) [] := by
  refine bw_ofW (by decide +kernel) RX5 rfl (Nat.le_of_ble_eq_true rfl) ?_
  intro p e s m below meth c ls S hr hlocks hK hZ hI hl
  have hx := S.1
  have hb := S.2.1
  have hown := S.2.2.2.1
  have hts := S.2.2.2.2
  generalize va_A _ s.heap.size = A at hI hZ ⊢
  generalize hQ : MQ below _ _ s 0 0 A = Q
  have hl : lv_has ls 1 [(0, .int p0)] := hl
  have j20 : ∀  (H : Heap) (locs : List Loc) (ls : Array Slot), jX5_greatestValue_20  = some r → bw_I G A s.heap [] H locs → lv_has ls 1 [] → W p l e (bw_rm 0 0) s m [.int p0].toArray below meth c H locs 0 0 Q (F0 m 20 ls []) := by
    intro  H locs ls h hI hl
    unfold jX5_greatestValue_20 at h
    refine lv_iconst (v := 0) hx hb dX5_greatestValue_20 rfl ?_
    exact bw_iretP S hr hlocks h hI rfl dX5_greatestValue_21 hQ
  unfold fX5_greatestValue at h
  refine lv_iload_n hx hb dX5_greatestValue_0 rfl (lv_at hl 0 rfl) ?_
  refine lv_if_lt (tgt := 20) hx hb dX5_greatestValue_1 (by decide) (fun c_1 => ?_) (fun c_1 => ?_)
  · rw [if_pos c_1] at h
    exact j20  _ _ _ h hI (lv_sub hl [] rfl)
  rw [if_neg c_1] at h
  refine lv_iload_n hx hb dX5_greatestValue_4 rfl (lv_at hl 0 rfl) ?_
  refine bw_gets S hZ hI f_X5_232 dX5_greatestValue_5 ?_
  refine bw_slen hx hb hZ hI dX5_greatestValue_8 ?_
  refine lv_icmp_ge (tgt := 20) hx hb dX5_greatestValue_9 (by decide) (fun c_9 => ?_) (fun c_9 => ?_)
  · rw [if_pos c_9] at h
    exact j20  _ _ _ h hI (lv_sub hl [] rfl)
  rw [if_neg c_9] at h
  refine bw_gets S hZ hI f_X5_232 dX5_greatestValue_12 ?_
  refine lv_iload_n hx hb dX5_greatestValue_15 rfl (lv_at hl 0 rfl) ?_
  obtain ⟨v16, hv, h⟩ := bw_b1_e h
  refine bw_sld hx hb hZ hI hv dX5_greatestValue_16 ?_
  refine lv_goto (tgt := 21) hx hb dX5_greatestValue_17 (by decide) ?_
  exact bw_iretP S hr hlocks h hI rfl dX5_greatestValue_21 hQ
set_option maxHeartbeats 4000000 in
set_option maxRecDepth 100000 in
theorem mX5_set (l : Launch) (hfl : l.stackTraces = false) (G : va_G) (cy : Nat → ClassId) (g : Nat) (b : Nat → Nat → Nat) (d : bw_A2) (t : bw_A2) (sl : bw_A3) (hn : Int32) (hs : Int32) (cs : bw_A1) (ln : Int32) (rp : Int32) (rn : Int32) (rt : Int32) (p1 : Int32) (p2 : Int32) (ec : Nat) (r : Int32) (d' : bw_A2) (sl' : bw_A3) (hn' : Int32) (hs' : Int32) (h : fX5_set d sl hn hs p1 p2 = some (ec, r, d', sl', hn', hs')) : bw_MX l yX5_set cX5_set 3 (some .int) 7 102 2 G cy g [.ref (b 8 5), .int p1, .int p2] (bw_xW cy b d t sl hn hs cs ln rp rn rt) ec (some (.int r)) (bw_xW cy b d' t sl' hn' hs' cs ln rp rn rt) := by
  refine bw_ofWX (by decide +kernel) RX5 rfl (Nat.le_of_ble_eq_true rfl) ?_
  intro p e s m below meth c ls S hr hlocks hno hK hZ hI hl
  have hx := S.1
  have hb := S.2.1
  have hown := S.2.2.2.1
  have hts := S.2.2.2.2
  generalize va_A _ s.heap.size = A at hI hZ ⊢
  generalize hQ : vx_MQ below _ _ _ s 2 (6 * 2) A = Q
  have hl : lv_has ls 3 [(0, .ref (b 8 5)), (1, .int p1), (2, .int p2)] := hl
  unfold fX5_set at h
  refine lv_iload_n hx hb dX5_set_0 rfl (lv_at hl 1 rfl) ?_
  obtain ⟨k1, hc, h⟩ := bw_b1_e h
  refine bw_callPX S hK hZ hI (mX5_needSetting l hfl G cy g p1 k1 hc) Y_X5_needSetting V_X5_needSetting l_X5_84 ⟨(Nat.le_of_ble_eq_true rfl), (Nat.le_of_ble_eq_true rfl)⟩ (rest := []) (st1 := []) rfl hl.1 rfl rfl (Nat.le_of_ble_eq_true rfl) dX5_set_1 ⟨(Nat.le_of_ble_eq_true rfl), (Nat.le_of_ble_eq_true rfl)⟩ (fun h0 q ce H locs hI h1 h2 h3 => ?_) (fun h0 H locs hI => ?_)
  · have h := bw_thn_f h h0
    exact bw_outX (dd := (0, d, sl, hn, hs)) (rr := (r, d', sl', hn', hs')) hno hlocks h0 h (fun q : (Int32 × bw_A2 × bw_A3 × Int32 × Int32) => (bw_xW cy b q.2.1 t q.2.2.1 q.2.2.2.1 q.2.2.2.2 cs ln rp rn rt)) (fun q : (Int32 × bw_A2 × bw_A3 × Int32 × Int32) => some (.int q.1)) hI h1 h2 h3 (Nat.le_of_ble_eq_true rfl) (Nat.le_of_ble_eq_true rfl) hQ
  have h := bw_thn_t h h0
  refine lv_iload_n hx hb dX5_set_4 rfl (lv_at hl 2 rfl) ?_
  refine lv_iconst (v := 0) hx hb dX5_set_5 rfl ?_
  refine lv_iload_n hx hb dX5_set_6 rfl (lv_at hl 1 rfl) ?_
  obtain ⟨r7, hc, h⟩ := bw_b1_e h
  refine bw_callP S hK hZ hI (mX5_greatestValue l G cy g p1 r7 hc) Y_X5_greatestValue V_X5_greatestValue l_X5_87 ⟨(Nat.le_of_ble_eq_true rfl), (Nat.le_of_ble_eq_true rfl)⟩ (rest := [.int 0, .int p2]) (st1 := [.int r7, .int 0, .int p2]) rfl hl.1 rfl rfl (Nat.le_of_ble_eq_true rfl) dX5_set_7 ⟨(Nat.le_of_ble_eq_true rfl), (Nat.le_of_ble_eq_true rfl)⟩ (fun H locs hI => ?_)
  obtain ⟨r10, hc, h⟩ := bw_b1_e h
  refine bw_callP S hK hZ hI (mX5_isOutside l G cy g p2 0 r7 r10 hc) Y_X5_isOutside V_X5_isOutside l_X5_33 ⟨(Nat.le_of_ble_eq_true rfl), (Nat.le_of_ble_eq_true rfl)⟩ (rest := []) (st1 := [.int r10]) rfl hl.1 rfl rfl (Nat.le_of_ble_eq_true rfl) dX5_set_10 ⟨(Nat.le_of_ble_eq_true rfl), (Nat.le_of_ble_eq_true rfl)⟩ (fun H locs hI => ?_)
  refine lv_if_eq (tgt := 26) hx hb dX5_set_13 (by decide) (fun c_13 => ?_) (fun c_13 => ?_)
  · rw [if_pos c_13] at h
    refine lv_aload_n hx hb dX5_set_26 rfl (lv_at hl 0 rfl) ?_
    refine bw_get S hK hI 0 2 rfl rfl (by decide) i_X5 f_X5_22 rfl dX5_set_27 ?_
    refine lv_aload_n hx hb dX5_set_30 rfl (lv_at hl 0 rfl) ?_
    refine bw_get S hK hI 0 0 rfl rfl (by decide) i_X5 f_X5_12 rfl dX5_set_31 ?_
    obtain ⟨sl_34, hn_34, hs_34, hc, h⟩ := bw_b3_e h
    refine bw_callV S hK hZ hI (mX1_keep l G cy g b d sl hn hs sl_34 hn_34 hs_34 hc) Y_X1_keep V_X1_keep l_X5_53 ⟨(Nat.le_of_ble_eq_true rfl), (Nat.le_of_ble_eq_true rfl)⟩ (q0 := 0) rfl rfl rfl (ws' := (bw_xW cy b d t sl_34 hn_34 hs_34 cs ln rp rn rt)) (bw_px_h cy b d t sl hn hs cs ln rp rn rt) (bw_px_h cy b d t sl_34 hn_34 hs_34 cs ln rp rn rt).symm rfl rfl hl.1 (rest := []) (st1 := []) rfl rfl (Nat.le_of_ble_eq_true rfl) dX5_set_34 ⟨(Nat.le_of_ble_eq_true rfl), (Nat.le_of_ble_eq_true rfl)⟩ (fun H locs hI => ?_)
    refine lv_aload_n hx hb dX5_set_37 rfl (lv_at hl 0 rfl) ?_
    refine bw_get S hK hI 0 0 rfl rfl (by decide) i_X5 f_X5_12 rfl dX5_set_38 ?_
    refine lv_iload_n hx hb dX5_set_41 rfl (lv_at hl 1 rfl) ?_
    refine lv_iload_n hx hb dX5_set_42 rfl (lv_at hl 2 rfl) ?_
    obtain ⟨r43, ts_43, hc, h⟩ := bw_b2_e h
    obtain ⟨d_43, e_43⟩ : ∃ z, z = (va_up d 3 ts_43) := ⟨_, rfl⟩
    have h := bw_let_e h e_43
    refine bw_callV S hK hZ hI (mX0_changeSetting l G cy g (b 0) (d 0) (d 1) (d 2) (d 3) (d 4) (d 5 0) (d 5 1) p1 p2 r43 ts_43 hc) Y_X0_changeSetting V_X0_changeSetting l_X5_93 ⟨(Nat.le_of_ble_eq_true rfl), (Nat.le_of_ble_eq_true rfl)⟩ (q0 := 0) rfl rfl rfl (ws' := (bw_xW cy b d_43 t sl_34 hn_34 hs_34 cs ln rp rn rt)) (bw_px_d cy b d t sl_34 hn_34 hs_34 cs ln rp rn rt) (by rw [e_43]; exact (bw_px_d cy b (va_up d 3 ts_43) t sl_34 hn_34 hs_34 cs ln rp rn rt).symm) rfl rfl hl.1 (rest := []) (st1 := [.int r43]) rfl rfl (Nat.le_of_ble_eq_true rfl) dX5_set_43 ⟨(Nat.le_of_ble_eq_true rfl), (Nat.le_of_ble_eq_true rfl)⟩ (fun H locs hI => ?_)
    clear e_43
    exact bw_iretX (dd := (r43, d_43, sl_34, hn_34, hs_34)) (rr := (r, d', sl', hn', hs')) S hr hlocks h (fun q : (Int32 × bw_A2 × bw_A3 × Int32 × Int32) => (bw_xW cy b q.2.1 t q.2.2.1 q.2.2.2.1 q.2.2.2.2 cs ln rp rn rt)) (fun q : (Int32 × bw_A2 × bw_A3 × Int32 × Int32) => some (.int q.1)) rfl hI rfl (Nat.le_of_ble_eq_true rfl) (Nat.le_of_ble_eq_true rfl) dX5_set_46 hQ
  rw [if_neg c_13] at h
  exact bw_thr (dd := (0, d, sl, hn, hs)) (rr := (r, d', sl', hn', hs')) (k5 := 2) (text := "value out of range") (rest := []) S hl.1 hZ hfl hno hlocks (by decide) h (fun q : (Int32 × bw_A2 × bw_A3 × Int32 × Int32) => (bw_xW cy b q.2.1 t q.2.2.1 q.2.2.2.1 q.2.2.2.2 cs ln rp rn rt)) (fun q : (Int32 × bw_A2 × bw_A3 × Int32 × Int32) => some (.int q.1)) hI (by decide +kernel) c_X5_37 x_2 (by decide) at_2 dX5_set_16 dX5_set_19 dX5_set_20 dX5_set_22 dX5_set_25 (Nat.le_of_ble_eq_true rfl) (Nat.le_of_ble_eq_true rfl) ⟨(Nat.le_of_ble_eq_true rfl), (Nat.le_of_ble_eq_true rfl)⟩ (Nat.le_of_ble_eq_true rfl) (Nat.le_of_ble_eq_true rfl) hQ
set_option maxHeartbeats 4000000 in
set_option maxRecDepth 100000 in
theorem mX5_needDaysTaken (l : Launch) (hfl : l.stackTraces = false) (G : va_G) (cy : Nat → ClassId) (g : Nat) (p0 : Int32) (ec : Nat) (h : fX5_needDaysTaken p0 = some ec) : bw_MX l yX5_needDaysTaken cX5_needDaysTaken 1 none 6 82 1 G cy g [.int p0] [] ec none [] := by
  refine bw_ofWX (by decide +kernel) RX5 rfl (Nat.le_of_ble_eq_true rfl) ?_
  intro p e s m below meth c ls S hr hlocks hno hK hZ hI hl
  have hx := S.1
  have hb := S.2.1
  have hown := S.2.2.2.1
  have hts := S.2.2.2.2
  generalize va_A _ s.heap.size = A at hI hZ ⊢
  generalize hQ : vx_MQ below _ _ _ s 1 (6 * 1) A = Q
  have hl : lv_has ls 1 [(0, .int p0)] := hl
  unfold fX5_needDaysTaken at h
  refine lv_iload_n hx hb dX5_needDaysTaken_0 rfl (lv_at hl 0 rfl) ?_
  refine lv_iconst (v := 0) hx hb dX5_needDaysTaken_1 rfl ?_
  refine lv_sipush (v := 300) hx hb dX5_needDaysTaken_2 (by decide) ?_
  obtain ⟨r5, hc, h⟩ := bw_b1_e h
  refine bw_callP S hK hZ hI (mX5_isOutside l G cy g p0 0 300 r5 hc) Y_X5_isOutside V_X5_isOutside l_X5_33 ⟨(Nat.le_of_ble_eq_true rfl), (Nat.le_of_ble_eq_true rfl)⟩ (rest := []) (st1 := [.int r5]) rfl hl.1 rfl rfl (Nat.le_of_ble_eq_true rfl) dX5_needDaysTaken_5 ⟨(Nat.le_of_ble_eq_true rfl), (Nat.le_of_ble_eq_true rfl)⟩ (fun H locs hI => ?_)
  refine lv_if_eq (tgt := 21) hx hb dX5_needDaysTaken_8 (by decide) (fun c_8 => ?_) (fun c_8 => ?_)
  · rw [if_pos c_8] at h
    exact bw_vretX S hr hlocks h hI (Nat.le_of_ble_eq_true rfl) (Nat.le_of_ble_eq_true rfl) dX5_needDaysTaken_21 hQ
  rw [if_neg c_8] at h
  exact bw_thr (dd := ()) (rr := ()) (k5 := 2) (text := "days out of range") (rest := []) S hl.1 hZ hfl hno hlocks (by decide) (by rw [← Option.some.inj h]) (fun _ => []) (fun _ => none) hI (by decide +kernel) c_X5_37 x_2 (by decide) at_2 dX5_needDaysTaken_11 dX5_needDaysTaken_14 dX5_needDaysTaken_15 dX5_needDaysTaken_17 dX5_needDaysTaken_20 (Nat.le_of_ble_eq_true rfl) (Nat.le_of_ble_eq_true rfl) ⟨(Nat.le_of_ble_eq_true rfl), (Nat.le_of_ble_eq_true rfl)⟩ (Nat.le_of_ble_eq_true rfl) (Nat.le_of_ble_eq_true rfl) hQ
set_option maxHeartbeats 4000000 in
set_option maxRecDepth 100000 in
theorem mX5_done (l : Launch) (hfl : l.stackTraces = false) (G : va_G) (cy : Nat → ClassId) (g : Nat) (b : Nat → Nat → Nat) (d : bw_A2) (t : bw_A2) (sl : bw_A3) (hn : Int32) (hs : Int32) (cs : bw_A1) (ln : Int32) (rp : Int32) (rn : Int32) (rt : Int32) (p1 : Int32) (p2 : Int32) (ec : Nat) (r : Int32) (d' : bw_A2) (sl' : bw_A3) (hn' : Int32) (hs' : Int32) (h : fX5_done d sl hn hs p1 p2 = some (ec, r, d', sl', hn', hs')) : bw_MX l yX5_done cX5_done 3 (some .int) 7 129 3 G cy g [.ref (b 8 5), .int p1, .int p2] (bw_xW cy b d t sl hn hs cs ln rp rn rt) ec (some (.int r)) (bw_xW cy b d' t sl' hn' hs' cs ln rp rn rt) := by
  refine bw_ofWX (by decide +kernel) RX5 rfl (Nat.le_of_ble_eq_true rfl) ?_
  intro p e s m below meth c ls S hr hlocks hno hK hZ hI hl
  have hx := S.1
  have hb := S.2.1
  have hown := S.2.2.2.1
  have hts := S.2.2.2.2
  generalize va_A _ s.heap.size = A at hI hZ ⊢
  generalize hQ : vx_MQ below _ _ _ s 3 (6 * 3) A = Q
  have hl : lv_has ls 3 [(0, .ref (b 8 5)), (1, .int p1), (2, .int p2)] := hl
  unfold fX5_done at h
  refine lv_aload_n hx hb dX5_done_0 rfl (lv_at hl 0 rfl) ?_
  refine lv_iload_n hx hb dX5_done_1 rfl (lv_at hl 1 rfl) ?_
  obtain ⟨k2, hc, h⟩ := bw_b1_e h
  refine bw_callVX S hK hZ hI (mX5_needProject l hfl G cy g b d t sl hn hs cs ln rp rn rt p1 k2 hc) Y_X5_needProject V_X5_needProject l_X5_61 ⟨(Nat.le_of_ble_eq_true rfl), (Nat.le_of_ble_eq_true rfl)⟩ (q0 := 0) rfl rfl rfl (ws' := (bw_xW cy b d t sl hn hs cs ln rp rn rt)) (bw_pS _) (bw_pS' _) rfl rfl hl.1 (rest := []) (st1 := []) rfl rfl (Nat.le_of_ble_eq_true rfl) dX5_done_2 ⟨(Nat.le_of_ble_eq_true rfl), (Nat.le_of_ble_eq_true rfl)⟩ (fun h0 q ce H locs hI h1 h2 h3 => ?_) (fun h0 H locs hI => ?_)
  · have h := bw_thn_f h h0
    exact bw_outX (dd := (0, d, sl, hn, hs)) (rr := (r, d', sl', hn', hs')) hno hlocks h0 h (fun q : (Int32 × bw_A2 × bw_A3 × Int32 × Int32) => (bw_xW cy b q.2.1 t q.2.2.1 q.2.2.2.1 q.2.2.2.2 cs ln rp rn rt)) (fun q : (Int32 × bw_A2 × bw_A3 × Int32 × Int32) => some (.int q.1)) hI h1 h2 h3 (Nat.le_of_ble_eq_true rfl) (Nat.le_of_ble_eq_true rfl) hQ
  have h := bw_thn_t h h0
  refine lv_iload_n hx hb dX5_done_5 rfl (lv_at hl 2 rfl) ?_
  obtain ⟨k6, hc, h⟩ := bw_b1_e h
  refine bw_callPX S hK hZ hI (mX5_needDaysTaken l hfl G cy g p2 k6 hc) Y_X5_needDaysTaken V_X5_needDaysTaken l_X5_96 ⟨(Nat.le_of_ble_eq_true rfl), (Nat.le_of_ble_eq_true rfl)⟩ (rest := []) (st1 := []) rfl hl.1 rfl rfl (Nat.le_of_ble_eq_true rfl) dX5_done_6 ⟨(Nat.le_of_ble_eq_true rfl), (Nat.le_of_ble_eq_true rfl)⟩ (fun h0 q ce H locs hI h1 h2 h3 => ?_) (fun h0 H locs hI => ?_)
  · have h := bw_thn_f h h0
    exact bw_outX (dd := (0, d, sl, hn, hs)) (rr := (r, d', sl', hn', hs')) hno hlocks h0 h (fun q : (Int32 × bw_A2 × bw_A3 × Int32 × Int32) => (bw_xW cy b q.2.1 t q.2.2.1 q.2.2.2.1 q.2.2.2.2 cs ln rp rn rt)) (fun q : (Int32 × bw_A2 × bw_A3 × Int32 × Int32) => some (.int q.1)) hI h1 h2 h3 (Nat.le_of_ble_eq_true rfl) (Nat.le_of_ble_eq_true rfl) hQ
  have h := bw_thn_t h h0
  refine lv_aload_n hx hb dX5_done_9 rfl (lv_at hl 0 rfl) ?_
  refine bw_get S hK hI 0 0 rfl rfl (by decide) i_X5 f_X5_12 rfl dX5_done_10 ?_
  refine lv_iload_n hx hb dX5_done_13 rfl (lv_at hl 1 rfl) ?_
  obtain ⟨r14, hc, h⟩ := bw_b1_e h
  refine bw_callV S hK hZ hI (mX0_hasNextTask l G cy g (b 0) (d 0) (d 1) (d 2) (d 3) (d 4) (d 5 0) (d 5 1) p1 r14 hc) Y_X0_hasNextTask V_X0_hasNextTask l_X5_99 ⟨(Nat.le_of_ble_eq_true rfl), (Nat.le_of_ble_eq_true rfl)⟩ (q0 := 0) rfl rfl rfl (ws' := (bw_xW cy b d t sl hn hs cs ln rp rn rt)) (bw_px_d cy b d t sl hn hs cs ln rp rn rt) (bw_px_d cy b d t sl hn hs cs ln rp rn rt).symm rfl rfl hl.1 (rest := []) (st1 := [.int r14]) rfl rfl (Nat.le_of_ble_eq_true rfl) dX5_done_14 ⟨(Nat.le_of_ble_eq_true rfl), (Nat.le_of_ble_eq_true rfl)⟩ (fun H locs hI => ?_)
  refine lv_if_ne (tgt := 30) hx hb dX5_done_17 (by decide) (fun c_17 => ?_) (fun c_17 => ?_)
  · rw [if_neg c_17] at h
    refine lv_aload_n hx hb dX5_done_30 rfl (lv_at hl 0 rfl) ?_
    refine bw_get S hK hI 0 2 rfl rfl (by decide) i_X5 f_X5_22 rfl dX5_done_31 ?_
    refine lv_aload_n hx hb dX5_done_34 rfl (lv_at hl 0 rfl) ?_
    refine bw_get S hK hI 0 0 rfl rfl (by decide) i_X5 f_X5_12 rfl dX5_done_35 ?_
    obtain ⟨sl_38, hn_38, hs_38, hc, h⟩ := bw_b3_e h
    refine bw_callV S hK hZ hI (mX1_keep l G cy g b d sl hn hs sl_38 hn_38 hs_38 hc) Y_X1_keep V_X1_keep l_X5_53 ⟨(Nat.le_of_ble_eq_true rfl), (Nat.le_of_ble_eq_true rfl)⟩ (q0 := 0) rfl rfl rfl (ws' := (bw_xW cy b d t sl_38 hn_38 hs_38 cs ln rp rn rt)) (bw_px_h cy b d t sl hn hs cs ln rp rn rt) (bw_px_h cy b d t sl_38 hn_38 hs_38 cs ln rp rn rt).symm rfl rfl hl.1 (rest := []) (st1 := []) rfl rfl (Nat.le_of_ble_eq_true rfl) dX5_done_38 ⟨(Nat.le_of_ble_eq_true rfl), (Nat.le_of_ble_eq_true rfl)⟩ (fun H locs hI => ?_)
    refine lv_aload_n hx hb dX5_done_41 rfl (lv_at hl 0 rfl) ?_
    refine bw_get S hK hI 0 0 rfl rfl (by decide) i_X5 f_X5_12 rfl dX5_done_42 ?_
    refine lv_iload_n hx hb dX5_done_45 rfl (lv_at hl 1 rfl) ?_
    refine lv_iload_n hx hb dX5_done_46 rfl (lv_at hl 2 rfl) ?_
    obtain ⟨r47, tp_47, tk_47, tl_47, tq_47, nl_47, hc, h⟩ := bw_b6_e h
    obtain ⟨d_47, e_47⟩ : ∃ z, z = (va_up (va_up (va_up (va_up (va_up d 0 tp_47) 1 tk_47) 2 tl_47) 4 tq_47) 5 (upd (d 5) 1 nl_47)) := ⟨_, rfl⟩
    have h := bw_let_e h e_47
    refine bw_callV S hK hZ hI (mX0_doNextTask l G cy g (b 0) (d 0) (d 1) (d 2) (d 3) (d 4) (d 5 0) (d 5 1) p1 p2 r47 tp_47 tk_47 tl_47 tq_47 nl_47 hc) Y_X0_doNextTask V_X0_doNextTask l_X5_104 ⟨(Nat.le_of_ble_eq_true rfl), (Nat.le_of_ble_eq_true rfl)⟩ (q0 := 0) rfl rfl rfl (ws' := (bw_xW cy b d_47 t sl_38 hn_38 hs_38 cs ln rp rn rt)) (bw_px_d cy b d t sl_38 hn_38 hs_38 cs ln rp rn rt) (by rw [e_47]; exact (bw_px_d cy b (va_up (va_up (va_up (va_up (va_up d 0 tp_47) 1 tk_47) 2 tl_47) 4 tq_47) 5 (upd (d 5) 1 nl_47)) t sl_38 hn_38 hs_38 cs ln rp rn rt).symm) rfl rfl hl.1 (rest := []) (st1 := [.int r47]) rfl rfl (Nat.le_of_ble_eq_true rfl) dX5_done_47 ⟨(Nat.le_of_ble_eq_true rfl), (Nat.le_of_ble_eq_true rfl)⟩ (fun H locs hI => ?_)
    clear e_47
    exact bw_iretX (dd := (r47, d_47, sl_38, hn_38, hs_38)) (rr := (r, d', sl', hn', hs')) S hr hlocks h (fun q : (Int32 × bw_A2 × bw_A3 × Int32 × Int32) => (bw_xW cy b q.2.1 t q.2.2.1 q.2.2.2.1 q.2.2.2.2 cs ln rp rn rt)) (fun q : (Int32 × bw_A2 × bw_A3 × Int32 × Int32) => some (.int q.1)) rfl hI rfl (Nat.le_of_ble_eq_true rfl) (Nat.le_of_ble_eq_true rfl) dX5_done_50 hQ
  rw [if_pos c_17] at h
  exact bw_thr (dd := (0, d, sl, hn, hs)) (rr := (r, d', sl', hn', hs')) (k5 := 3) (text := "project closed or without a next task") (rest := []) S hl.1 hZ hfl hno hlocks (by decide) h (fun q : (Int32 × bw_A2 × bw_A3 × Int32 × Int32) => (bw_xW cy b q.2.1 t q.2.2.1 q.2.2.2.1 q.2.2.2.2 cs ln rp rn rt)) (fun q : (Int32 × bw_A2 × bw_A3 × Int32 × Int32) => some (.int q.1)) hI (by decide +kernel) c_X5_48 x_3 (by decide) at_3 dX5_done_20 dX5_done_23 dX5_done_24 dX5_done_26 dX5_done_29 (Nat.le_of_ble_eq_true rfl) (Nat.le_of_ble_eq_true rfl) ⟨(Nat.le_of_ble_eq_true rfl), (Nat.le_of_ble_eq_true rfl)⟩ (Nat.le_of_ble_eq_true rfl) (Nat.le_of_ble_eq_true rfl) hQ
set_option maxHeartbeats 4000000 in
set_option maxRecDepth 100000 in
theorem mX5_lend (l : Launch) (hfl : l.stackTraces = false) (G : va_G) (cy : Nat → ClassId) (g : Nat) (b : Nat → Nat → Nat) (d : bw_A2) (t : bw_A2) (sl : bw_A3) (hn : Int32) (hs : Int32) (cs : bw_A1) (ln : Int32) (rp : Int32) (rn : Int32) (rt : Int32) (p1 : Int32) (p2 : Int32) (p3 : Int32) (ec : Nat) (r : Int32) (d' : bw_A2) (sl' : bw_A3) (hn' : Int32) (hs' : Int32) (h : fX5_lend d sl hn hs p1 p2 p3 = some (ec, r, d', sl', hn', hs')) : bw_MX l yX5_lend cX5_lend 4 (some .int) 7 103 3 G cy g [.ref (b 8 5), .int p1, .int p2, .int p3] (bw_xW cy b d t sl hn hs cs ln rp rn rt) ec (some (.int r)) (bw_xW cy b d' t sl' hn' hs' cs ln rp rn rt) := by
  refine bw_ofWX (by decide +kernel) RX5 rfl (Nat.le_of_ble_eq_true rfl) ?_
  intro p e s m below meth c ls S hr hlocks hno hK hZ hI hl
  have hx := S.1
  have hb := S.2.1
  have hown := S.2.2.2.1
  have hts := S.2.2.2.2
  generalize va_A _ s.heap.size = A at hI hZ ⊢
  generalize hQ : vx_MQ below _ _ _ s 3 (6 * 3) A = Q
  have hl : lv_has ls 4 [(0, .ref (b 8 5)), (1, .int p1), (2, .int p2), (3, .int p3)] := hl
  unfold fX5_lend at h
  refine lv_aload_n hx hb dX5_lend_0 rfl (lv_at hl 0 rfl) ?_
  refine lv_iload_n hx hb dX5_lend_1 rfl (lv_at hl 1 rfl) ?_
  obtain ⟨k2, hc, h⟩ := bw_b1_e h
  refine bw_callVX S hK hZ hI (mX5_needProject l hfl G cy g b d t sl hn hs cs ln rp rn rt p1 k2 hc) Y_X5_needProject V_X5_needProject l_X5_61 ⟨(Nat.le_of_ble_eq_true rfl), (Nat.le_of_ble_eq_true rfl)⟩ (q0 := 0) rfl rfl rfl (ws' := (bw_xW cy b d t sl hn hs cs ln rp rn rt)) (bw_pS _) (bw_pS' _) rfl rfl hl.1 (rest := []) (st1 := []) rfl rfl (Nat.le_of_ble_eq_true rfl) dX5_lend_2 ⟨(Nat.le_of_ble_eq_true rfl), (Nat.le_of_ble_eq_true rfl)⟩ (fun h0 q ce H locs hI h1 h2 h3 => ?_) (fun h0 H locs hI => ?_)
  · have h := bw_thn_f h h0
    exact bw_outX (dd := (0, d, sl, hn, hs)) (rr := (r, d', sl', hn', hs')) hno hlocks h0 h (fun q : (Int32 × bw_A2 × bw_A3 × Int32 × Int32) => (bw_xW cy b q.2.1 t q.2.2.1 q.2.2.2.1 q.2.2.2.2 cs ln rp rn rt)) (fun q : (Int32 × bw_A2 × bw_A3 × Int32 × Int32) => some (.int q.1)) hI h1 h2 h3 (Nat.le_of_ble_eq_true rfl) (Nat.le_of_ble_eq_true rfl) hQ
  have h := bw_thn_t h h0
  refine lv_aload_n hx hb dX5_lend_5 rfl (lv_at hl 0 rfl) ?_
  refine lv_iload_n hx hb dX5_lend_6 rfl (lv_at hl 2 rfl) ?_
  obtain ⟨k7, hc, h⟩ := bw_b1_e h
  refine bw_callVX S hK hZ hI (mX5_needProject l hfl G cy g b d t sl hn hs cs ln rp rn rt p2 k7 hc) Y_X5_needProject V_X5_needProject l_X5_61 ⟨(Nat.le_of_ble_eq_true rfl), (Nat.le_of_ble_eq_true rfl)⟩ (q0 := 0) rfl rfl rfl (ws' := (bw_xW cy b d t sl hn hs cs ln rp rn rt)) (bw_pS _) (bw_pS' _) rfl rfl hl.1 (rest := []) (st1 := []) rfl rfl (Nat.le_of_ble_eq_true rfl) dX5_lend_7 ⟨(Nat.le_of_ble_eq_true rfl), (Nat.le_of_ble_eq_true rfl)⟩ (fun h0 q ce H locs hI h1 h2 h3 => ?_) (fun h0 H locs hI => ?_)
  · have h := bw_thn_f h h0
    exact bw_outX (dd := (0, d, sl, hn, hs)) (rr := (r, d', sl', hn', hs')) hno hlocks h0 h (fun q : (Int32 × bw_A2 × bw_A3 × Int32 × Int32) => (bw_xW cy b q.2.1 t q.2.2.1 q.2.2.2.1 q.2.2.2.2 cs ln rp rn rt)) (fun q : (Int32 × bw_A2 × bw_A3 × Int32 × Int32) => some (.int q.1)) hI h1 h2 h3 (Nat.le_of_ble_eq_true rfl) (Nat.le_of_ble_eq_true rfl) hQ
  have h := bw_thn_t h h0
  refine lv_iload_n hx hb dX5_lend_10 rfl (lv_at hl 1 rfl) ?_
  refine lv_iload_n hx hb dX5_lend_11 rfl (lv_at hl 2 rfl) ?_
  refine lv_icmp_eq (tgt := 25) hx hb dX5_lend_12 (by decide) (fun c_12 => ?_) (fun c_12 => ?_)
  · rw [if_pos c_12] at h
    exact bw_thr (dd := (0, d, sl, hn, hs)) (rr := (r, d', sl', hn', hs')) (k5 := 2) (text := "same project or days out of range") (rest := []) S hl.1 hZ hfl hno hlocks (by decide) h (fun q : (Int32 × bw_A2 × bw_A3 × Int32 × Int32) => (bw_xW cy b q.2.1 t q.2.2.1 q.2.2.2.1 q.2.2.2.2 cs ln rp rn rt)) (fun q : (Int32 × bw_A2 × bw_A3 × Int32 × Int32) => some (.int q.1)) hI (by decide +kernel) c_X5_37 x_2 (by decide) at_2 dX5_lend_25 dX5_lend_28 dX5_lend_29 dX5_lend_31 dX5_lend_34 (Nat.le_of_ble_eq_true rfl) (Nat.le_of_ble_eq_true rfl) ⟨(Nat.le_of_ble_eq_true rfl), (Nat.le_of_ble_eq_true rfl)⟩ (Nat.le_of_ble_eq_true rfl) (Nat.le_of_ble_eq_true rfl) hQ
  rw [if_neg c_12] at h
  refine lv_iload_n hx hb dX5_lend_15 rfl (lv_at hl 3 rfl) ?_
  refine lv_iconst (v := 1) hx hb dX5_lend_16 rfl ?_
  refine lv_bipush (v := 99) hx hb dX5_lend_17 (by decide) ?_
  obtain ⟨r19, hc, h⟩ := bw_b1_e h
  refine bw_callP S hK hZ hI (mX5_isOutside l G cy g p3 1 99 r19 hc) Y_X5_isOutside V_X5_isOutside l_X5_33 ⟨(Nat.le_of_ble_eq_true rfl), (Nat.le_of_ble_eq_true rfl)⟩ (rest := []) (st1 := [.int r19]) rfl hl.1 rfl rfl (Nat.le_of_ble_eq_true rfl) dX5_lend_19 ⟨(Nat.le_of_ble_eq_true rfl), (Nat.le_of_ble_eq_true rfl)⟩ (fun H locs hI => ?_)
  refine lv_if_eq (tgt := 35) hx hb dX5_lend_22 (by decide) (fun c_22 => ?_) (fun c_22 => ?_)
  · rw [if_pos c_22] at h
    refine lv_aload_n hx hb dX5_lend_35 rfl (lv_at hl 0 rfl) ?_
    refine bw_get S hK hI 0 0 rfl rfl (by decide) i_X5 f_X5_12 rfl dX5_lend_36 ?_
    refine lv_iload_n hx hb dX5_lend_39 rfl (lv_at hl 1 rfl) ?_
    obtain ⟨r40, hc, h⟩ := bw_b1_e h
    refine bw_callV S hK hZ hI (mX0_isOpen l G cy g (b 0) (d 0) (d 1) (d 2) (d 3) (d 4) (d 5 0) (d 5 1) p1 r40 hc) Y_X0_isOpen V_X0_isOpen l_X5_67 ⟨(Nat.le_of_ble_eq_true rfl), (Nat.le_of_ble_eq_true rfl)⟩ (q0 := 0) rfl rfl rfl (ws' := (bw_xW cy b d t sl hn hs cs ln rp rn rt)) (bw_px_d cy b d t sl hn hs cs ln rp rn rt) (bw_px_d cy b d t sl hn hs cs ln rp rn rt).symm rfl rfl hl.1 (rest := []) (st1 := [.int r40]) rfl rfl (Nat.le_of_ble_eq_true rfl) dX5_lend_40 ⟨(Nat.le_of_ble_eq_true rfl), (Nat.le_of_ble_eq_true rfl)⟩ (fun H locs hI => ?_)
    refine lv_if_eq (tgt := 70) hx hb dX5_lend_43 (by decide) (fun c_43 => ?_) (fun c_43 => ?_)
    · rw [if_pos c_43] at h
      exact bw_thr (dd := (0, d, sl, hn, hs)) (rr := (r, d', sl', hn', hs')) (k5 := 3) (text := "project closed or too few days left") (rest := []) S hl.1 hZ hfl hno hlocks (by decide) h (fun q : (Int32 × bw_A2 × bw_A3 × Int32 × Int32) => (bw_xW cy b q.2.1 t q.2.2.1 q.2.2.2.1 q.2.2.2.2 cs ln rp rn rt)) (fun q : (Int32 × bw_A2 × bw_A3 × Int32 × Int32) => some (.int q.1)) hI (by decide +kernel) c_X5_48 x_3 (by decide) at_3 dX5_lend_70 dX5_lend_73 dX5_lend_74 dX5_lend_76 dX5_lend_79 (Nat.le_of_ble_eq_true rfl) (Nat.le_of_ble_eq_true rfl) ⟨(Nat.le_of_ble_eq_true rfl), (Nat.le_of_ble_eq_true rfl)⟩ (Nat.le_of_ble_eq_true rfl) (Nat.le_of_ble_eq_true rfl) hQ
    rw [if_neg c_43] at h
    refine lv_aload_n hx hb dX5_lend_46 rfl (lv_at hl 0 rfl) ?_
    refine bw_get S hK hI 0 0 rfl rfl (by decide) i_X5 f_X5_12 rfl dX5_lend_47 ?_
    refine lv_iload_n hx hb dX5_lend_50 rfl (lv_at hl 2 rfl) ?_
    obtain ⟨r51, hc, h⟩ := bw_b1_e h
    refine bw_callV S hK hZ hI (mX0_isOpen l G cy g (b 0) (d 0) (d 1) (d 2) (d 3) (d 4) (d 5 0) (d 5 1) p2 r51 hc) Y_X0_isOpen V_X0_isOpen l_X5_67 ⟨(Nat.le_of_ble_eq_true rfl), (Nat.le_of_ble_eq_true rfl)⟩ (q0 := 0) rfl rfl rfl (ws' := (bw_xW cy b d t sl hn hs cs ln rp rn rt)) (bw_px_d cy b d t sl hn hs cs ln rp rn rt) (bw_px_d cy b d t sl hn hs cs ln rp rn rt).symm rfl rfl hl.1 (rest := []) (st1 := [.int r51]) rfl rfl (Nat.le_of_ble_eq_true rfl) dX5_lend_51 ⟨(Nat.le_of_ble_eq_true rfl), (Nat.le_of_ble_eq_true rfl)⟩ (fun H locs hI => ?_)
    refine lv_if_eq (tgt := 70) hx hb dX5_lend_54 (by decide) (fun c_54 => ?_) (fun c_54 => ?_)
    · rw [if_pos c_54] at h
      exact bw_thr (dd := (0, d, sl, hn, hs)) (rr := (r, d', sl', hn', hs')) (k5 := 3) (text := "project closed or too few days left") (rest := []) S hl.1 hZ hfl hno hlocks (by decide) h (fun q : (Int32 × bw_A2 × bw_A3 × Int32 × Int32) => (bw_xW cy b q.2.1 t q.2.2.1 q.2.2.2.1 q.2.2.2.2 cs ln rp rn rt)) (fun q : (Int32 × bw_A2 × bw_A3 × Int32 × Int32) => some (.int q.1)) hI (by decide +kernel) c_X5_48 x_3 (by decide) at_3 dX5_lend_70 dX5_lend_73 dX5_lend_74 dX5_lend_76 dX5_lend_79 (Nat.le_of_ble_eq_true rfl) (Nat.le_of_ble_eq_true rfl) ⟨(Nat.le_of_ble_eq_true rfl), (Nat.le_of_ble_eq_true rfl)⟩ (Nat.le_of_ble_eq_true rfl) (Nat.le_of_ble_eq_true rfl) hQ
    rw [if_neg c_54] at h
    refine lv_aload_n hx hb dX5_lend_57 rfl (lv_at hl 0 rfl) ?_
    refine bw_get S hK hI 0 0 rfl rfl (by decide) i_X5 f_X5_12 rfl dX5_lend_58 ?_
    refine lv_iload_n hx hb dX5_lend_61 rfl (lv_at hl 1 rfl) ?_
    refine lv_iconst (v := 2) hx hb dX5_lend_62 rfl ?_
    obtain ⟨r63, hc, h⟩ := bw_b1_e h
    refine bw_callV S hK hZ hI (mX0_projectPart l G cy g (b 0) (d 0) (d 1) (d 2) (d 3) (d 4) (d 5 0) (d 5 1) p1 2 r63 hc) Y_X0_projectPart V_X0_projectPart l_X5_71 ⟨(Nat.le_of_ble_eq_true rfl), (Nat.le_of_ble_eq_true rfl)⟩ (q0 := 0) rfl rfl rfl (ws' := (bw_xW cy b d t sl hn hs cs ln rp rn rt)) (bw_px_d cy b d t sl hn hs cs ln rp rn rt) (bw_px_d cy b d t sl hn hs cs ln rp rn rt).symm rfl rfl hl.1 (rest := []) (st1 := [.int r63]) rfl rfl (Nat.le_of_ble_eq_true rfl) dX5_lend_63 ⟨(Nat.le_of_ble_eq_true rfl), (Nat.le_of_ble_eq_true rfl)⟩ (fun H locs hI => ?_)
    refine lv_iload_n hx hb dX5_lend_66 rfl (lv_at hl 3 rfl) ?_
    refine lv_icmp_ge (tgt := 80) hx hb dX5_lend_67 (by decide) (fun c_67 => ?_) (fun c_67 => ?_)
    · rw [if_pos c_67] at h
      refine lv_aload_n hx hb dX5_lend_80 rfl (lv_at hl 0 rfl) ?_
      refine bw_get S hK hI 0 2 rfl rfl (by decide) i_X5 f_X5_22 rfl dX5_lend_81 ?_
      refine lv_aload_n hx hb dX5_lend_84 rfl (lv_at hl 0 rfl) ?_
      refine bw_get S hK hI 0 0 rfl rfl (by decide) i_X5 f_X5_12 rfl dX5_lend_85 ?_
      obtain ⟨sl_88, hn_88, hs_88, hc, h⟩ := bw_b3_e h
      refine bw_callV S hK hZ hI (mX1_keep l G cy g b d sl hn hs sl_88 hn_88 hs_88 hc) Y_X1_keep V_X1_keep l_X5_53 ⟨(Nat.le_of_ble_eq_true rfl), (Nat.le_of_ble_eq_true rfl)⟩ (q0 := 0) rfl rfl rfl (ws' := (bw_xW cy b d t sl_88 hn_88 hs_88 cs ln rp rn rt)) (bw_px_h cy b d t sl hn hs cs ln rp rn rt) (bw_px_h cy b d t sl_88 hn_88 hs_88 cs ln rp rn rt).symm rfl rfl hl.1 (rest := []) (st1 := []) rfl rfl (Nat.le_of_ble_eq_true rfl) dX5_lend_88 ⟨(Nat.le_of_ble_eq_true rfl), (Nat.le_of_ble_eq_true rfl)⟩ (fun H locs hI => ?_)
      refine lv_aload_n hx hb dX5_lend_91 rfl (lv_at hl 0 rfl) ?_
      refine bw_get S hK hI 0 0 rfl rfl (by decide) i_X5 f_X5_12 rfl dX5_lend_92 ?_
      refine lv_iload_n hx hb dX5_lend_95 rfl (lv_at hl 1 rfl) ?_
      refine lv_iload_n hx hb dX5_lend_96 rfl (lv_at hl 2 rfl) ?_
      refine lv_iload_n hx hb dX5_lend_97 rfl (lv_at hl 3 rfl) ?_
      obtain ⟨tp_98, tl_98, nl_98, hc, h⟩ := bw_b3_e h
      obtain ⟨d_98, e_98⟩ : ∃ z, z = (va_up (va_up (va_up d 0 tp_98) 2 tl_98) 5 (upd (d 5) 1 nl_98)) := ⟨_, rfl⟩
      have h := bw_let_e h e_98
      refine bw_callV S hK hZ hI (mX0_lendDays l G cy g (b 0) (d 0) (d 1) (d 2) (d 3) (d 4) (d 5 0) (d 5 1) p1 p2 p3 tp_98 tl_98 nl_98 hc) Y_X0_lendDays V_X0_lendDays l_X5_111 ⟨(Nat.le_of_ble_eq_true rfl), (Nat.le_of_ble_eq_true rfl)⟩ (q0 := 0) rfl rfl rfl (ws' := (bw_xW cy b d_98 t sl_88 hn_88 hs_88 cs ln rp rn rt)) (bw_px_d cy b d t sl_88 hn_88 hs_88 cs ln rp rn rt) (by rw [e_98]; exact (bw_px_d cy b (va_up (va_up (va_up d 0 tp_98) 2 tl_98) 5 (upd (d 5) 1 nl_98)) t sl_88 hn_88 hs_88 cs ln rp rn rt).symm) rfl rfl hl.1 (rest := []) (st1 := []) rfl rfl (Nat.le_of_ble_eq_true rfl) dX5_lend_98 ⟨(Nat.le_of_ble_eq_true rfl), (Nat.le_of_ble_eq_true rfl)⟩ (fun H locs hI => ?_)
      clear e_98
      refine lv_aload_n hx hb dX5_lend_101 rfl (lv_at hl 0 rfl) ?_
      refine bw_get S hK hI 0 0 rfl rfl (by decide) i_X5 f_X5_12 rfl dX5_lend_102 ?_
      refine lv_iload_n hx hb dX5_lend_105 rfl (lv_at hl 2 rfl) ?_
      refine lv_iload_n hx hb dX5_lend_106 rfl (lv_at hl 1 rfl) ?_
      obtain ⟨r107, hc, h⟩ := bw_b1_e h
      refine bw_callV S hK hZ hI (mX0_daysOwed l G cy g (b 0) (d_98 0) (d_98 1) (d_98 2) (d_98 3) (d_98 4) (d_98 5 0) (d_98 5 1) p2 p1 r107 hc) Y_X0_daysOwed V_X0_daysOwed l_X5_115 ⟨(Nat.le_of_ble_eq_true rfl), (Nat.le_of_ble_eq_true rfl)⟩ (q0 := 0) rfl rfl rfl (ws' := (bw_xW cy b d_98 t sl_88 hn_88 hs_88 cs ln rp rn rt)) (bw_px_d cy b d_98 t sl_88 hn_88 hs_88 cs ln rp rn rt) (bw_px_d cy b d_98 t sl_88 hn_88 hs_88 cs ln rp rn rt).symm rfl rfl hl.1 (rest := []) (st1 := [.int r107]) rfl rfl (Nat.le_of_ble_eq_true rfl) dX5_lend_107 ⟨(Nat.le_of_ble_eq_true rfl), (Nat.le_of_ble_eq_true rfl)⟩ (fun H locs hI => ?_)
      exact bw_iretX (dd := (r107, d_98, sl_88, hn_88, hs_88)) (rr := (r, d', sl', hn', hs')) S hr hlocks h (fun q : (Int32 × bw_A2 × bw_A3 × Int32 × Int32) => (bw_xW cy b q.2.1 t q.2.2.1 q.2.2.2.1 q.2.2.2.2 cs ln rp rn rt)) (fun q : (Int32 × bw_A2 × bw_A3 × Int32 × Int32) => some (.int q.1)) rfl hI rfl (Nat.le_of_ble_eq_true rfl) (Nat.le_of_ble_eq_true rfl) dX5_lend_110 hQ
    rw [if_neg c_67] at h
    exact bw_thr (dd := (0, d, sl, hn, hs)) (rr := (r, d', sl', hn', hs')) (k5 := 3) (text := "project closed or too few days left") (rest := []) S hl.1 hZ hfl hno hlocks (by decide) h (fun q : (Int32 × bw_A2 × bw_A3 × Int32 × Int32) => (bw_xW cy b q.2.1 t q.2.2.1 q.2.2.2.1 q.2.2.2.2 cs ln rp rn rt)) (fun q : (Int32 × bw_A2 × bw_A3 × Int32 × Int32) => some (.int q.1)) hI (by decide +kernel) c_X5_48 x_3 (by decide) at_3 dX5_lend_70 dX5_lend_73 dX5_lend_74 dX5_lend_76 dX5_lend_79 (Nat.le_of_ble_eq_true rfl) (Nat.le_of_ble_eq_true rfl) ⟨(Nat.le_of_ble_eq_true rfl), (Nat.le_of_ble_eq_true rfl)⟩ (Nat.le_of_ble_eq_true rfl) (Nat.le_of_ble_eq_true rfl) hQ
  rw [if_neg c_22] at h
  exact bw_thr (dd := (0, d, sl, hn, hs)) (rr := (r, d', sl', hn', hs')) (k5 := 2) (text := "same project or days out of range") (rest := []) S hl.1 hZ hfl hno hlocks (by decide) h (fun q : (Int32 × bw_A2 × bw_A3 × Int32 × Int32) => (bw_xW cy b q.2.1 t q.2.2.1 q.2.2.2.1 q.2.2.2.2 cs ln rp rn rt)) (fun q : (Int32 × bw_A2 × bw_A3 × Int32 × Int32) => some (.int q.1)) hI (by decide +kernel) c_X5_37 x_2 (by decide) at_2 dX5_lend_25 dX5_lend_28 dX5_lend_29 dX5_lend_31 dX5_lend_34 (Nat.le_of_ble_eq_true rfl) (Nat.le_of_ble_eq_true rfl) ⟨(Nat.le_of_ble_eq_true rfl), (Nat.le_of_ble_eq_true rfl)⟩ (Nat.le_of_ble_eq_true rfl) (Nat.le_of_ble_eq_true rfl) hQ
set_option maxHeartbeats 4000000 in
set_option maxRecDepth 100000 in
theorem mX5_payBack (l : Launch) (hfl : l.stackTraces = false) (G : va_G) (cy : Nat → ClassId) (g : Nat) (b : Nat → Nat → Nat) (d : bw_A2) (t : bw_A2) (sl : bw_A3) (hn : Int32) (hs : Int32) (cs : bw_A1) (ln : Int32) (rp : Int32) (rn : Int32) (rt : Int32) (p1 : Int32) (p2 : Int32) (p3 : Int32) (ec : Nat) (r : Int32) (d' : bw_A2) (sl' : bw_A3) (hn' : Int32) (hs' : Int32) (h : fX5_payBack d sl hn hs p1 p2 p3 = some (ec, r, d', sl', hn', hs')) : bw_MX l yX5_payBack cX5_payBack 4 (some .int) 7 103 3 G cy g [.ref (b 8 5), .int p1, .int p2, .int p3] (bw_xW cy b d t sl hn hs cs ln rp rn rt) ec (some (.int r)) (bw_xW cy b d' t sl' hn' hs' cs ln rp rn rt) := by
  refine bw_ofWX (by decide +kernel) RX5 rfl (Nat.le_of_ble_eq_true rfl) ?_
  intro p e s m below meth c ls S hr hlocks hno hK hZ hI hl
  have hx := S.1
  have hb := S.2.1
  have hown := S.2.2.2.1
  have hts := S.2.2.2.2
  generalize va_A _ s.heap.size = A at hI hZ ⊢
  generalize hQ : vx_MQ below _ _ _ s 3 (6 * 3) A = Q
  have hl : lv_has ls 4 [(0, .ref (b 8 5)), (1, .int p1), (2, .int p2), (3, .int p3)] := hl
  unfold fX5_payBack at h
  refine lv_aload_n hx hb dX5_payBack_0 rfl (lv_at hl 0 rfl) ?_
  refine lv_iload_n hx hb dX5_payBack_1 rfl (lv_at hl 1 rfl) ?_
  obtain ⟨k2, hc, h⟩ := bw_b1_e h
  refine bw_callVX S hK hZ hI (mX5_needProject l hfl G cy g b d t sl hn hs cs ln rp rn rt p1 k2 hc) Y_X5_needProject V_X5_needProject l_X5_61 ⟨(Nat.le_of_ble_eq_true rfl), (Nat.le_of_ble_eq_true rfl)⟩ (q0 := 0) rfl rfl rfl (ws' := (bw_xW cy b d t sl hn hs cs ln rp rn rt)) (bw_pS _) (bw_pS' _) rfl rfl hl.1 (rest := []) (st1 := []) rfl rfl (Nat.le_of_ble_eq_true rfl) dX5_payBack_2 ⟨(Nat.le_of_ble_eq_true rfl), (Nat.le_of_ble_eq_true rfl)⟩ (fun h0 q ce H locs hI h1 h2 h3 => ?_) (fun h0 H locs hI => ?_)
  · have h := bw_thn_f h h0
    exact bw_outX (dd := (0, d, sl, hn, hs)) (rr := (r, d', sl', hn', hs')) hno hlocks h0 h (fun q : (Int32 × bw_A2 × bw_A3 × Int32 × Int32) => (bw_xW cy b q.2.1 t q.2.2.1 q.2.2.2.1 q.2.2.2.2 cs ln rp rn rt)) (fun q : (Int32 × bw_A2 × bw_A3 × Int32 × Int32) => some (.int q.1)) hI h1 h2 h3 (Nat.le_of_ble_eq_true rfl) (Nat.le_of_ble_eq_true rfl) hQ
  have h := bw_thn_t h h0
  refine lv_aload_n hx hb dX5_payBack_5 rfl (lv_at hl 0 rfl) ?_
  refine lv_iload_n hx hb dX5_payBack_6 rfl (lv_at hl 2 rfl) ?_
  obtain ⟨k7, hc, h⟩ := bw_b1_e h
  refine bw_callVX S hK hZ hI (mX5_needProject l hfl G cy g b d t sl hn hs cs ln rp rn rt p2 k7 hc) Y_X5_needProject V_X5_needProject l_X5_61 ⟨(Nat.le_of_ble_eq_true rfl), (Nat.le_of_ble_eq_true rfl)⟩ (q0 := 0) rfl rfl rfl (ws' := (bw_xW cy b d t sl hn hs cs ln rp rn rt)) (bw_pS _) (bw_pS' _) rfl rfl hl.1 (rest := []) (st1 := []) rfl rfl (Nat.le_of_ble_eq_true rfl) dX5_payBack_7 ⟨(Nat.le_of_ble_eq_true rfl), (Nat.le_of_ble_eq_true rfl)⟩ (fun h0 q ce H locs hI h1 h2 h3 => ?_) (fun h0 H locs hI => ?_)
  · have h := bw_thn_f h h0
    exact bw_outX (dd := (0, d, sl, hn, hs)) (rr := (r, d', sl', hn', hs')) hno hlocks h0 h (fun q : (Int32 × bw_A2 × bw_A3 × Int32 × Int32) => (bw_xW cy b q.2.1 t q.2.2.1 q.2.2.2.1 q.2.2.2.2 cs ln rp rn rt)) (fun q : (Int32 × bw_A2 × bw_A3 × Int32 × Int32) => some (.int q.1)) hI h1 h2 h3 (Nat.le_of_ble_eq_true rfl) (Nat.le_of_ble_eq_true rfl) hQ
  have h := bw_thn_t h h0
  refine lv_iload_n hx hb dX5_payBack_10 rfl (lv_at hl 2 rfl) ?_
  refine lv_iload_n hx hb dX5_payBack_11 rfl (lv_at hl 1 rfl) ?_
  refine lv_icmp_eq (tgt := 26) hx hb dX5_payBack_12 (by decide) (fun c_12 => ?_) (fun c_12 => ?_)
  · rw [if_pos c_12] at h
    exact bw_thr (dd := (0, d, sl, hn, hs)) (rr := (r, d', sl', hn', hs')) (k5 := 2) (text := "same project or days out of range") (rest := []) S hl.1 hZ hfl hno hlocks (by decide) h (fun q : (Int32 × bw_A2 × bw_A3 × Int32 × Int32) => (bw_xW cy b q.2.1 t q.2.2.1 q.2.2.2.1 q.2.2.2.2 cs ln rp rn rt)) (fun q : (Int32 × bw_A2 × bw_A3 × Int32 × Int32) => some (.int q.1)) hI (by decide +kernel) c_X5_37 x_2 (by decide) at_2 dX5_payBack_26 dX5_payBack_29 dX5_payBack_30 dX5_payBack_32 dX5_payBack_35 (Nat.le_of_ble_eq_true rfl) (Nat.le_of_ble_eq_true rfl) ⟨(Nat.le_of_ble_eq_true rfl), (Nat.le_of_ble_eq_true rfl)⟩ (Nat.le_of_ble_eq_true rfl) (Nat.le_of_ble_eq_true rfl) hQ
  rw [if_neg c_12] at h
  refine lv_iload_n hx hb dX5_payBack_15 rfl (lv_at hl 3 rfl) ?_
  refine lv_iconst (v := 1) hx hb dX5_payBack_16 rfl ?_
  refine lv_sipush (v := 9999) hx hb dX5_payBack_17 (by decide) ?_
  obtain ⟨r20, hc, h⟩ := bw_b1_e h
  refine bw_callP S hK hZ hI (mX5_isOutside l G cy g p3 1 9999 r20 hc) Y_X5_isOutside V_X5_isOutside l_X5_33 ⟨(Nat.le_of_ble_eq_true rfl), (Nat.le_of_ble_eq_true rfl)⟩ (rest := []) (st1 := [.int r20]) rfl hl.1 rfl rfl (Nat.le_of_ble_eq_true rfl) dX5_payBack_20 ⟨(Nat.le_of_ble_eq_true rfl), (Nat.le_of_ble_eq_true rfl)⟩ (fun H locs hI => ?_)
  refine lv_if_eq (tgt := 36) hx hb dX5_payBack_23 (by decide) (fun c_23 => ?_) (fun c_23 => ?_)
  · rw [if_pos c_23] at h
    refine lv_aload_n hx hb dX5_payBack_36 rfl (lv_at hl 0 rfl) ?_
    refine bw_get S hK hI 0 0 rfl rfl (by decide) i_X5 f_X5_12 rfl dX5_payBack_37 ?_
    refine lv_iload_n hx hb dX5_payBack_40 rfl (lv_at hl 1 rfl) ?_
    refine lv_iload_n hx hb dX5_payBack_41 rfl (lv_at hl 2 rfl) ?_
    obtain ⟨r42, hc, h⟩ := bw_b1_e h
    refine bw_callV S hK hZ hI (mX0_daysOwed l G cy g (b 0) (d 0) (d 1) (d 2) (d 3) (d 4) (d 5 0) (d 5 1) p1 p2 r42 hc) Y_X0_daysOwed V_X0_daysOwed l_X5_115 ⟨(Nat.le_of_ble_eq_true rfl), (Nat.le_of_ble_eq_true rfl)⟩ (q0 := 0) rfl rfl rfl (ws' := (bw_xW cy b d t sl hn hs cs ln rp rn rt)) (bw_px_d cy b d t sl hn hs cs ln rp rn rt) (bw_px_d cy b d t sl hn hs cs ln rp rn rt).symm rfl rfl hl.1 (rest := []) (st1 := [.int r42]) rfl rfl (Nat.le_of_ble_eq_true rfl) dX5_payBack_42 ⟨(Nat.le_of_ble_eq_true rfl), (Nat.le_of_ble_eq_true rfl)⟩ (fun H locs hI => ?_)
    refine lv_iload_n hx hb dX5_payBack_45 rfl (lv_at hl 3 rfl) ?_
    refine lv_icmp_lt (tgt := 62) hx hb dX5_payBack_46 (by decide) (fun c_46 => ?_) (fun c_46 => ?_)
    · rw [if_pos c_46] at h
      exact bw_thr (dd := (0, d, sl, hn, hs)) (rr := (r, d', sl', hn', hs')) (k5 := 3) (text := "too few days owed or left") (rest := []) S hl.1 hZ hfl hno hlocks (by decide) h (fun q : (Int32 × bw_A2 × bw_A3 × Int32 × Int32) => (bw_xW cy b q.2.1 t q.2.2.1 q.2.2.2.1 q.2.2.2.2 cs ln rp rn rt)) (fun q : (Int32 × bw_A2 × bw_A3 × Int32 × Int32) => some (.int q.1)) hI (by decide +kernel) c_X5_48 x_3 (by decide) at_3 dX5_payBack_62 dX5_payBack_65 dX5_payBack_66 dX5_payBack_68 dX5_payBack_71 (Nat.le_of_ble_eq_true rfl) (Nat.le_of_ble_eq_true rfl) ⟨(Nat.le_of_ble_eq_true rfl), (Nat.le_of_ble_eq_true rfl)⟩ (Nat.le_of_ble_eq_true rfl) (Nat.le_of_ble_eq_true rfl) hQ
    rw [if_neg c_46] at h
    refine lv_aload_n hx hb dX5_payBack_49 rfl (lv_at hl 0 rfl) ?_
    refine bw_get S hK hI 0 0 rfl rfl (by decide) i_X5 f_X5_12 rfl dX5_payBack_50 ?_
    refine lv_iload_n hx hb dX5_payBack_53 rfl (lv_at hl 1 rfl) ?_
    refine lv_iconst (v := 2) hx hb dX5_payBack_54 rfl ?_
    obtain ⟨r55, hc, h⟩ := bw_b1_e h
    refine bw_callV S hK hZ hI (mX0_projectPart l G cy g (b 0) (d 0) (d 1) (d 2) (d 3) (d 4) (d 5 0) (d 5 1) p1 2 r55 hc) Y_X0_projectPart V_X0_projectPart l_X5_71 ⟨(Nat.le_of_ble_eq_true rfl), (Nat.le_of_ble_eq_true rfl)⟩ (q0 := 0) rfl rfl rfl (ws' := (bw_xW cy b d t sl hn hs cs ln rp rn rt)) (bw_px_d cy b d t sl hn hs cs ln rp rn rt) (bw_px_d cy b d t sl hn hs cs ln rp rn rt).symm rfl rfl hl.1 (rest := []) (st1 := [.int r55]) rfl rfl (Nat.le_of_ble_eq_true rfl) dX5_payBack_55 ⟨(Nat.le_of_ble_eq_true rfl), (Nat.le_of_ble_eq_true rfl)⟩ (fun H locs hI => ?_)
    refine lv_iload_n hx hb dX5_payBack_58 rfl (lv_at hl 3 rfl) ?_
    refine lv_icmp_ge (tgt := 72) hx hb dX5_payBack_59 (by decide) (fun c_59 => ?_) (fun c_59 => ?_)
    · rw [if_pos c_59] at h
      refine lv_aload_n hx hb dX5_payBack_72 rfl (lv_at hl 0 rfl) ?_
      refine bw_get S hK hI 0 2 rfl rfl (by decide) i_X5 f_X5_22 rfl dX5_payBack_73 ?_
      refine lv_aload_n hx hb dX5_payBack_76 rfl (lv_at hl 0 rfl) ?_
      refine bw_get S hK hI 0 0 rfl rfl (by decide) i_X5 f_X5_12 rfl dX5_payBack_77 ?_
      obtain ⟨sl_80, hn_80, hs_80, hc, h⟩ := bw_b3_e h
      refine bw_callV S hK hZ hI (mX1_keep l G cy g b d sl hn hs sl_80 hn_80 hs_80 hc) Y_X1_keep V_X1_keep l_X5_53 ⟨(Nat.le_of_ble_eq_true rfl), (Nat.le_of_ble_eq_true rfl)⟩ (q0 := 0) rfl rfl rfl (ws' := (bw_xW cy b d t sl_80 hn_80 hs_80 cs ln rp rn rt)) (bw_px_h cy b d t sl hn hs cs ln rp rn rt) (bw_px_h cy b d t sl_80 hn_80 hs_80 cs ln rp rn rt).symm rfl rfl hl.1 (rest := []) (st1 := []) rfl rfl (Nat.le_of_ble_eq_true rfl) dX5_payBack_80 ⟨(Nat.le_of_ble_eq_true rfl), (Nat.le_of_ble_eq_true rfl)⟩ (fun H locs hI => ?_)
      refine lv_aload_n hx hb dX5_payBack_83 rfl (lv_at hl 0 rfl) ?_
      refine bw_get S hK hI 0 0 rfl rfl (by decide) i_X5 f_X5_12 rfl dX5_payBack_84 ?_
      refine lv_aload_n hx hb dX5_payBack_87 rfl (lv_at hl 0 rfl) ?_
      refine bw_get S hK hI 0 0 rfl rfl (by decide) i_X5 f_X5_12 rfl dX5_payBack_88 ?_
      refine lv_iload_n hx hb dX5_payBack_91 rfl (lv_at hl 2 rfl) ?_
      refine lv_iload_n hx hb dX5_payBack_92 rfl (lv_at hl 1 rfl) ?_
      obtain ⟨r93, hc, h⟩ := bw_b1_e h
      refine bw_callV S hK hZ hI (mX0_placeOfLoan l G cy g (b 0) (d 0) (d 1) (d 2) (d 3) (d 4) (d 5 0) (d 5 1) p2 p1 r93 hc) Y_X0_placeOfLoan V_X0_placeOfLoan l_X5_120 ⟨(Nat.le_of_ble_eq_true rfl), (Nat.le_of_ble_eq_true rfl)⟩ (q0 := 0) rfl rfl rfl (ws' := (bw_xW cy b d t sl_80 hn_80 hs_80 cs ln rp rn rt)) (bw_px_d cy b d t sl_80 hn_80 hs_80 cs ln rp rn rt) (bw_px_d cy b d t sl_80 hn_80 hs_80 cs ln rp rn rt).symm rfl rfl hl.1 (rest := [.ref (b 0 0)]) (st1 := [.int r93, .ref (b 0 0)]) rfl rfl (Nat.le_of_ble_eq_true rfl) dX5_payBack_93 ⟨(Nat.le_of_ble_eq_true rfl), (Nat.le_of_ble_eq_true rfl)⟩ (fun H locs hI => ?_)
      refine lv_iload_n hx hb dX5_payBack_96 rfl (lv_at hl 3 rfl) ?_
      obtain ⟨tp_97, tl_97, nl_97, hc, h⟩ := bw_b3_e h
      obtain ⟨d_97, e_97⟩ : ∃ z, z = (va_up (va_up (va_up d 0 tp_97) 2 tl_97) 5 (upd (d 5) 1 nl_97)) := ⟨_, rfl⟩
      have h := bw_let_e h e_97
      refine bw_callV S hK hZ hI (mX0_payLoan l G cy g (b 0) (d 0) (d 1) (d 2) (d 3) (d 4) (d 5 0) (d 5 1) r93 p3 tp_97 tl_97 nl_97 hc) Y_X0_payLoan V_X0_payLoan l_X5_123 ⟨(Nat.le_of_ble_eq_true rfl), (Nat.le_of_ble_eq_true rfl)⟩ (q0 := 0) rfl rfl rfl (ws' := (bw_xW cy b d_97 t sl_80 hn_80 hs_80 cs ln rp rn rt)) (bw_px_d cy b d t sl_80 hn_80 hs_80 cs ln rp rn rt) (by rw [e_97]; exact (bw_px_d cy b (va_up (va_up (va_up d 0 tp_97) 2 tl_97) 5 (upd (d 5) 1 nl_97)) t sl_80 hn_80 hs_80 cs ln rp rn rt).symm) rfl rfl hl.1 (rest := []) (st1 := []) rfl rfl (Nat.le_of_ble_eq_true rfl) dX5_payBack_97 ⟨(Nat.le_of_ble_eq_true rfl), (Nat.le_of_ble_eq_true rfl)⟩ (fun H locs hI => ?_)
      clear e_97
      refine lv_aload_n hx hb dX5_payBack_100 rfl (lv_at hl 0 rfl) ?_
      refine bw_get S hK hI 0 0 rfl rfl (by decide) i_X5 f_X5_12 rfl dX5_payBack_101 ?_
      refine lv_iload_n hx hb dX5_payBack_104 rfl (lv_at hl 1 rfl) ?_
      refine lv_iload_n hx hb dX5_payBack_105 rfl (lv_at hl 2 rfl) ?_
      obtain ⟨r106, hc, h⟩ := bw_b1_e h
      refine bw_callV S hK hZ hI (mX0_daysOwed l G cy g (b 0) (d_97 0) (d_97 1) (d_97 2) (d_97 3) (d_97 4) (d_97 5 0) (d_97 5 1) p1 p2 r106 hc) Y_X0_daysOwed V_X0_daysOwed l_X5_115 ⟨(Nat.le_of_ble_eq_true rfl), (Nat.le_of_ble_eq_true rfl)⟩ (q0 := 0) rfl rfl rfl (ws' := (bw_xW cy b d_97 t sl_80 hn_80 hs_80 cs ln rp rn rt)) (bw_px_d cy b d_97 t sl_80 hn_80 hs_80 cs ln rp rn rt) (bw_px_d cy b d_97 t sl_80 hn_80 hs_80 cs ln rp rn rt).symm rfl rfl hl.1 (rest := []) (st1 := [.int r106]) rfl rfl (Nat.le_of_ble_eq_true rfl) dX5_payBack_106 ⟨(Nat.le_of_ble_eq_true rfl), (Nat.le_of_ble_eq_true rfl)⟩ (fun H locs hI => ?_)
      exact bw_iretX (dd := (r106, d_97, sl_80, hn_80, hs_80)) (rr := (r, d', sl', hn', hs')) S hr hlocks h (fun q : (Int32 × bw_A2 × bw_A3 × Int32 × Int32) => (bw_xW cy b q.2.1 t q.2.2.1 q.2.2.2.1 q.2.2.2.2 cs ln rp rn rt)) (fun q : (Int32 × bw_A2 × bw_A3 × Int32 × Int32) => some (.int q.1)) rfl hI rfl (Nat.le_of_ble_eq_true rfl) (Nat.le_of_ble_eq_true rfl) dX5_payBack_109 hQ
    rw [if_neg c_59] at h
    exact bw_thr (dd := (0, d, sl, hn, hs)) (rr := (r, d', sl', hn', hs')) (k5 := 3) (text := "too few days owed or left") (rest := []) S hl.1 hZ hfl hno hlocks (by decide) h (fun q : (Int32 × bw_A2 × bw_A3 × Int32 × Int32) => (bw_xW cy b q.2.1 t q.2.2.1 q.2.2.2.1 q.2.2.2.2 cs ln rp rn rt)) (fun q : (Int32 × bw_A2 × bw_A3 × Int32 × Int32) => some (.int q.1)) hI (by decide +kernel) c_X5_48 x_3 (by decide) at_3 dX5_payBack_62 dX5_payBack_65 dX5_payBack_66 dX5_payBack_68 dX5_payBack_71 (Nat.le_of_ble_eq_true rfl) (Nat.le_of_ble_eq_true rfl) ⟨(Nat.le_of_ble_eq_true rfl), (Nat.le_of_ble_eq_true rfl)⟩ (Nat.le_of_ble_eq_true rfl) (Nat.le_of_ble_eq_true rfl) hQ
  rw [if_neg c_23] at h
  exact bw_thr (dd := (0, d, sl, hn, hs)) (rr := (r, d', sl', hn', hs')) (k5 := 2) (text := "same project or days out of range") (rest := []) S hl.1 hZ hfl hno hlocks (by decide) h (fun q : (Int32 × bw_A2 × bw_A3 × Int32 × Int32) => (bw_xW cy b q.2.1 t q.2.2.1 q.2.2.2.1 q.2.2.2.2 cs ln rp rn rt)) (fun q : (Int32 × bw_A2 × bw_A3 × Int32 × Int32) => some (.int q.1)) hI (by decide +kernel) c_X5_37 x_2 (by decide) at_2 dX5_payBack_26 dX5_payBack_29 dX5_payBack_30 dX5_payBack_32 dX5_payBack_35 (Nat.le_of_ble_eq_true rfl) (Nat.le_of_ble_eq_true rfl) ⟨(Nat.le_of_ble_eq_true rfl), (Nat.le_of_ble_eq_true rfl)⟩ (Nat.le_of_ble_eq_true rfl) (Nat.le_of_ble_eq_true rfl) hQ
set_option maxHeartbeats 4000000 in
set_option maxRecDepth 100000 in
theorem mX5_close (l : Launch) (hfl : l.stackTraces = false) (G : va_G) (cy : Nat → ClassId) (g : Nat) (b : Nat → Nat → Nat) (d : bw_A2) (t : bw_A2) (sl : bw_A3) (hn : Int32) (hs : Int32) (cs : bw_A1) (ln : Int32) (rp : Int32) (rn : Int32) (rt : Int32) (p1 : Int32) (ec : Nat) (r : Int32) (d' : bw_A2) (sl' : bw_A3) (hn' : Int32) (hs' : Int32) (h : fX5_close d sl hn hs p1 = some (ec, r, d', sl', hn', hs')) : bw_MX l yX5_close cX5_close 2 (some .int) 7 122 2 G cy g [.ref (b 8 5), .int p1] (bw_xW cy b d t sl hn hs cs ln rp rn rt) ec (some (.int r)) (bw_xW cy b d' t sl' hn' hs' cs ln rp rn rt) := by
  refine bw_ofWX (by decide +kernel) RX5 rfl (Nat.le_of_ble_eq_true rfl) ?_
  intro p e s m below meth c ls S hr hlocks hno hK hZ hI hl
  have hx := S.1
  have hb := S.2.1
  have hown := S.2.2.2.1
  have hts := S.2.2.2.2
  generalize va_A _ s.heap.size = A at hI hZ ⊢
  generalize hQ : vx_MQ below _ _ _ s 2 (6 * 2) A = Q
  have hl : lv_has ls 2 [(0, .ref (b 8 5)), (1, .int p1)] := hl
  unfold fX5_close at h
  refine lv_aload_n hx hb dX5_close_0 rfl (lv_at hl 0 rfl) ?_
  refine lv_iload_n hx hb dX5_close_1 rfl (lv_at hl 1 rfl) ?_
  obtain ⟨k2, hc, h⟩ := bw_b1_e h
  refine bw_callVX S hK hZ hI (mX5_needProject l hfl G cy g b d t sl hn hs cs ln rp rn rt p1 k2 hc) Y_X5_needProject V_X5_needProject l_X5_61 ⟨(Nat.le_of_ble_eq_true rfl), (Nat.le_of_ble_eq_true rfl)⟩ (q0 := 0) rfl rfl rfl (ws' := (bw_xW cy b d t sl hn hs cs ln rp rn rt)) (bw_pS _) (bw_pS' _) rfl rfl hl.1 (rest := []) (st1 := []) rfl rfl (Nat.le_of_ble_eq_true rfl) dX5_close_2 ⟨(Nat.le_of_ble_eq_true rfl), (Nat.le_of_ble_eq_true rfl)⟩ (fun h0 q ce H locs hI h1 h2 h3 => ?_) (fun h0 H locs hI => ?_)
  · have h := bw_thn_f h h0
    exact bw_outX (dd := (0, d, sl, hn, hs)) (rr := (r, d', sl', hn', hs')) hno hlocks h0 h (fun q : (Int32 × bw_A2 × bw_A3 × Int32 × Int32) => (bw_xW cy b q.2.1 t q.2.2.1 q.2.2.2.1 q.2.2.2.2 cs ln rp rn rt)) (fun q : (Int32 × bw_A2 × bw_A3 × Int32 × Int32) => some (.int q.1)) hI h1 h2 h3 (Nat.le_of_ble_eq_true rfl) (Nat.le_of_ble_eq_true rfl) hQ
  have h := bw_thn_t h h0
  refine lv_aload_n hx hb dX5_close_5 rfl (lv_at hl 0 rfl) ?_
  refine bw_get S hK hI 0 0 rfl rfl (by decide) i_X5 f_X5_12 rfl dX5_close_6 ?_
  refine lv_iload_n hx hb dX5_close_9 rfl (lv_at hl 1 rfl) ?_
  obtain ⟨r10, hc, h⟩ := bw_b1_e h
  refine bw_callV S hK hZ hI (mX0_isOpen l G cy g (b 0) (d 0) (d 1) (d 2) (d 3) (d 4) (d 5 0) (d 5 1) p1 r10 hc) Y_X0_isOpen V_X0_isOpen l_X5_67 ⟨(Nat.le_of_ble_eq_true rfl), (Nat.le_of_ble_eq_true rfl)⟩ (q0 := 0) rfl rfl rfl (ws' := (bw_xW cy b d t sl hn hs cs ln rp rn rt)) (bw_px_d cy b d t sl hn hs cs ln rp rn rt) (bw_px_d cy b d t sl hn hs cs ln rp rn rt).symm rfl rfl hl.1 (rest := []) (st1 := [.int r10]) rfl rfl (Nat.le_of_ble_eq_true rfl) dX5_close_10 ⟨(Nat.le_of_ble_eq_true rfl), (Nat.le_of_ble_eq_true rfl)⟩ (fun H locs hI => ?_)
  refine lv_if_eq (tgt := 27) hx hb dX5_close_13 (by decide) (fun c_13 => ?_) (fun c_13 => ?_)
  · rw [if_pos c_13] at h
    exact bw_thr (dd := (0, d, sl, hn, hs)) (rr := (r, d', sl', hn', hs')) (k5 := 3) (text := "project closed or with a next task") (rest := []) S hl.1 hZ hfl hno hlocks (by decide) h (fun q : (Int32 × bw_A2 × bw_A3 × Int32 × Int32) => (bw_xW cy b q.2.1 t q.2.2.1 q.2.2.2.1 q.2.2.2.2 cs ln rp rn rt)) (fun q : (Int32 × bw_A2 × bw_A3 × Int32 × Int32) => some (.int q.1)) hI (by decide +kernel) c_X5_48 x_3 (by decide) at_3 dX5_close_27 dX5_close_30 dX5_close_31 dX5_close_33 dX5_close_36 (Nat.le_of_ble_eq_true rfl) (Nat.le_of_ble_eq_true rfl) ⟨(Nat.le_of_ble_eq_true rfl), (Nat.le_of_ble_eq_true rfl)⟩ (Nat.le_of_ble_eq_true rfl) (Nat.le_of_ble_eq_true rfl) hQ
  rw [if_neg c_13] at h
  refine lv_aload_n hx hb dX5_close_16 rfl (lv_at hl 0 rfl) ?_
  refine bw_get S hK hI 0 0 rfl rfl (by decide) i_X5 f_X5_12 rfl dX5_close_17 ?_
  refine lv_iload_n hx hb dX5_close_20 rfl (lv_at hl 1 rfl) ?_
  obtain ⟨r21, hc, h⟩ := bw_b1_e h
  refine bw_callV S hK hZ hI (mX0_hasNextTask l G cy g (b 0) (d 0) (d 1) (d 2) (d 3) (d 4) (d 5 0) (d 5 1) p1 r21 hc) Y_X0_hasNextTask V_X0_hasNextTask l_X5_99 ⟨(Nat.le_of_ble_eq_true rfl), (Nat.le_of_ble_eq_true rfl)⟩ (q0 := 0) rfl rfl rfl (ws' := (bw_xW cy b d t sl hn hs cs ln rp rn rt)) (bw_px_d cy b d t sl hn hs cs ln rp rn rt) (bw_px_d cy b d t sl hn hs cs ln rp rn rt).symm rfl rfl hl.1 (rest := []) (st1 := [.int r21]) rfl rfl (Nat.le_of_ble_eq_true rfl) dX5_close_21 ⟨(Nat.le_of_ble_eq_true rfl), (Nat.le_of_ble_eq_true rfl)⟩ (fun H locs hI => ?_)
  refine lv_if_eq (tgt := 37) hx hb dX5_close_24 (by decide) (fun c_24 => ?_) (fun c_24 => ?_)
  · rw [if_pos c_24] at h
    refine lv_aload_n hx hb dX5_close_37 rfl (lv_at hl 0 rfl) ?_
    refine bw_get S hK hI 0 2 rfl rfl (by decide) i_X5 f_X5_22 rfl dX5_close_38 ?_
    refine lv_aload_n hx hb dX5_close_41 rfl (lv_at hl 0 rfl) ?_
    refine bw_get S hK hI 0 0 rfl rfl (by decide) i_X5 f_X5_12 rfl dX5_close_42 ?_
    obtain ⟨sl_45, hn_45, hs_45, hc, h⟩ := bw_b3_e h
    refine bw_callV S hK hZ hI (mX1_keep l G cy g b d sl hn hs sl_45 hn_45 hs_45 hc) Y_X1_keep V_X1_keep l_X5_53 ⟨(Nat.le_of_ble_eq_true rfl), (Nat.le_of_ble_eq_true rfl)⟩ (q0 := 0) rfl rfl rfl (ws' := (bw_xW cy b d t sl_45 hn_45 hs_45 cs ln rp rn rt)) (bw_px_h cy b d t sl hn hs cs ln rp rn rt) (bw_px_h cy b d t sl_45 hn_45 hs_45 cs ln rp rn rt).symm rfl rfl hl.1 (rest := []) (st1 := []) rfl rfl (Nat.le_of_ble_eq_true rfl) dX5_close_45 ⟨(Nat.le_of_ble_eq_true rfl), (Nat.le_of_ble_eq_true rfl)⟩ (fun H locs hI => ?_)
    refine lv_aload_n hx hb dX5_close_48 rfl (lv_at hl 0 rfl) ?_
    refine bw_get S hK hI 0 0 rfl rfl (by decide) i_X5 f_X5_12 rfl dX5_close_49 ?_
    refine lv_iload_n hx hb dX5_close_52 rfl (lv_at hl 1 rfl) ?_
    obtain ⟨r53, tp_53, tl_53, nl_53, hc, h⟩ := bw_b4_e h
    obtain ⟨d_53, e_53⟩ : ∃ z, z = (va_up (va_up (va_up d 0 tp_53) 2 tl_53) 5 (upd (d 5) 1 nl_53)) := ⟨_, rfl⟩
    have h := bw_let_e h e_53
    refine bw_callV S hK hZ hI (mX0_closeProject l G cy g (b 0) (d 0) (d 1) (d 2) (d 3) (d 4) (d 5 0) (d 5 1) p1 r53 tp_53 tl_53 nl_53 hc) Y_X0_closeProject V_X0_closeProject l_X5_129 ⟨(Nat.le_of_ble_eq_true rfl), (Nat.le_of_ble_eq_true rfl)⟩ (q0 := 0) rfl rfl rfl (ws' := (bw_xW cy b d_53 t sl_45 hn_45 hs_45 cs ln rp rn rt)) (bw_px_d cy b d t sl_45 hn_45 hs_45 cs ln rp rn rt) (by rw [e_53]; exact (bw_px_d cy b (va_up (va_up (va_up d 0 tp_53) 2 tl_53) 5 (upd (d 5) 1 nl_53)) t sl_45 hn_45 hs_45 cs ln rp rn rt).symm) rfl rfl hl.1 (rest := []) (st1 := [.int r53]) rfl rfl (Nat.le_of_ble_eq_true rfl) dX5_close_53 ⟨(Nat.le_of_ble_eq_true rfl), (Nat.le_of_ble_eq_true rfl)⟩ (fun H locs hI => ?_)
    clear e_53
    exact bw_iretX (dd := (r53, d_53, sl_45, hn_45, hs_45)) (rr := (r, d', sl', hn', hs')) S hr hlocks h (fun q : (Int32 × bw_A2 × bw_A3 × Int32 × Int32) => (bw_xW cy b q.2.1 t q.2.2.1 q.2.2.2.1 q.2.2.2.2 cs ln rp rn rt)) (fun q : (Int32 × bw_A2 × bw_A3 × Int32 × Int32) => some (.int q.1)) rfl hI rfl (Nat.le_of_ble_eq_true rfl) (Nat.le_of_ble_eq_true rfl) dX5_close_56 hQ
  rw [if_neg c_24] at h
  exact bw_thr (dd := (0, d, sl, hn, hs)) (rr := (r, d', sl', hn', hs')) (k5 := 3) (text := "project closed or with a next task") (rest := []) S hl.1 hZ hfl hno hlocks (by decide) h (fun q : (Int32 × bw_A2 × bw_A3 × Int32 × Int32) => (bw_xW cy b q.2.1 t q.2.2.1 q.2.2.2.1 q.2.2.2.2 cs ln rp rn rt)) (fun q : (Int32 × bw_A2 × bw_A3 × Int32 × Int32) => some (.int q.1)) hI (by decide +kernel) c_X5_48 x_3 (by decide) at_3 dX5_close_27 dX5_close_30 dX5_close_31 dX5_close_33 dX5_close_36 (Nat.le_of_ble_eq_true rfl) (Nat.le_of_ble_eq_true rfl) ⟨(Nat.le_of_ble_eq_true rfl), (Nat.le_of_ble_eq_true rfl)⟩ (Nat.le_of_ble_eq_true rfl) (Nat.le_of_ble_eq_true rfl) hQ
set_option maxHeartbeats 4000000 in
set_option maxRecDepth 100000 in
theorem mX5_append (l : Launch) (hfl : l.stackTraces = false) (G : va_G) (cy : Nat → ClassId) (g : Nat) (b : Nat → Nat → Nat) (d : bw_A2) (t : bw_A2) (sl : bw_A3) (hn : Int32) (hs : Int32) (cs : bw_A1) (ln : Int32) (rp : Int32) (rn : Int32) (rt : Int32) (p1 : Int32) (ec : Nat) (r : Int32) (cs' : bw_A1) (ln' : Int32) (h : fX5_append cs ln p1 = some (ec, r, cs', ln')) : bw_MX l yX5_append cX5_append 2 (some .int) 6 82 1 G cy g [.ref (b 8 5), .int p1] (bw_xW cy b d t sl hn hs cs ln rp rn rt) ec (some (.int r)) (bw_xW cy b d t sl hn hs cs' ln' rp rn rt) := by
  refine bw_ofWX (by decide +kernel) RX5 rfl (Nat.le_of_ble_eq_true rfl) ?_
  intro p e s m below meth c ls S hr hlocks hno hK hZ hI hl
  have hx := S.1
  have hb := S.2.1
  have hown := S.2.2.2.1
  have hts := S.2.2.2.2
  generalize va_A _ s.heap.size = A at hI hZ ⊢
  generalize hQ : vx_MQ below _ _ _ s 1 (6 * 1) A = Q
  have hl : lv_has ls 2 [(0, .ref (b 8 5)), (1, .int p1)] := hl
  unfold fX5_append at h
  refine lv_iload_n hx hb dX5_append_0 rfl (lv_at hl 1 rfl) ?_
  refine lv_bipush (v := 33) hx hb dX5_append_1 (by decide) ?_
  refine lv_bipush (v := 126) hx hb dX5_append_3 (by decide) ?_
  obtain ⟨r5, hc, h⟩ := bw_b1_e h
  refine bw_callP S hK hZ hI (mX5_isOutside l G cy g p1 33 126 r5 hc) Y_X5_isOutside V_X5_isOutside l_X5_33 ⟨(Nat.le_of_ble_eq_true rfl), (Nat.le_of_ble_eq_true rfl)⟩ (rest := []) (st1 := [.int r5]) rfl hl.1 rfl rfl (Nat.le_of_ble_eq_true rfl) dX5_append_5 ⟨(Nat.le_of_ble_eq_true rfl), (Nat.le_of_ble_eq_true rfl)⟩ (fun H locs hI => ?_)
  refine lv_if_eq (tgt := 21) hx hb dX5_append_8 (by decide) (fun c_8 => ?_) (fun c_8 => ?_)
  · rw [if_pos c_8] at h
    refine lv_aload_n hx hb dX5_append_21 rfl (lv_at hl 0 rfl) ?_
    refine bw_get S hK hI 0 3 rfl rfl (by decide) i_X5 f_X5_29 rfl dX5_append_22 ?_
    obtain ⟨r25, hc, h⟩ := bw_b1_e h
    refine bw_callV S hK hZ hI (mX4_length l G cy g (b 8 2) (b 8 3) (b 8 4) cs ln rp rn rt r25 hc) Y_X4_length V_X4_length l_X5_134 ⟨(Nat.le_of_ble_eq_true rfl), (Nat.le_of_ble_eq_true rfl)⟩ (q0 := 0) rfl rfl rfl (ws' := (bw_xW cy b d t sl hn hs cs ln rp rn rt)) (bw_px_x cy b d t sl hn hs cs ln rp rn rt) (bw_px_x cy b d t sl hn hs cs ln rp rn rt).symm rfl rfl hl.1 (rest := []) (st1 := [.int r25]) rfl rfl (Nat.le_of_ble_eq_true rfl) dX5_append_25 ⟨(Nat.le_of_ble_eq_true rfl), (Nat.le_of_ble_eq_true rfl)⟩ (fun H locs hI => ?_)
    refine lv_bipush (v := 60) hx hb dX5_append_28 (by decide) ?_
    refine lv_icmp_lt (tgt := 43) hx hb dX5_append_30 (by decide) (fun c_30 => ?_) (fun c_30 => ?_)
    · rw [if_pos c_30] at h
      refine lv_aload_n hx hb dX5_append_43 rfl (lv_at hl 0 rfl) ?_
      refine bw_get S hK hI 0 3 rfl rfl (by decide) i_X5 f_X5_29 rfl dX5_append_44 ?_
      refine lv_iload_n hx hb dX5_append_47 rfl (lv_at hl 1 rfl) ?_
      obtain ⟨cs_48, ln_48, hc, h⟩ := bw_b2_e h
      refine bw_callV S hK hZ hI (mX4_add l G cy g (b 8 2) (b 8 3) (b 8 4) cs ln rp rn rt p1 cs_48 ln_48 hc) Y_X4_add V_X4_add l_X5_139 ⟨(Nat.le_of_ble_eq_true rfl), (Nat.le_of_ble_eq_true rfl)⟩ (q0 := 0) rfl rfl rfl (ws' := (bw_xW cy b d t sl hn hs cs_48 ln_48 rp rn rt)) (bw_px_x cy b d t sl hn hs cs ln rp rn rt) (bw_px_x cy b d t sl hn hs cs_48 ln_48 rp rn rt).symm rfl rfl hl.1 (rest := []) (st1 := []) rfl rfl (Nat.le_of_ble_eq_true rfl) dX5_append_48 ⟨(Nat.le_of_ble_eq_true rfl), (Nat.le_of_ble_eq_true rfl)⟩ (fun H locs hI => ?_)
      refine lv_aload_n hx hb dX5_append_51 rfl (lv_at hl 0 rfl) ?_
      refine bw_get S hK hI 0 3 rfl rfl (by decide) i_X5 f_X5_29 rfl dX5_append_52 ?_
      obtain ⟨r55, hc, h⟩ := bw_b1_e h
      refine bw_callV S hK hZ hI (mX4_length l G cy g (b 8 2) (b 8 3) (b 8 4) cs_48 ln_48 rp rn rt r55 hc) Y_X4_length V_X4_length l_X5_134 ⟨(Nat.le_of_ble_eq_true rfl), (Nat.le_of_ble_eq_true rfl)⟩ (q0 := 0) rfl rfl rfl (ws' := (bw_xW cy b d t sl hn hs cs_48 ln_48 rp rn rt)) (bw_px_x cy b d t sl hn hs cs_48 ln_48 rp rn rt) (bw_px_x cy b d t sl hn hs cs_48 ln_48 rp rn rt).symm rfl rfl hl.1 (rest := []) (st1 := [.int r55]) rfl rfl (Nat.le_of_ble_eq_true rfl) dX5_append_55 ⟨(Nat.le_of_ble_eq_true rfl), (Nat.le_of_ble_eq_true rfl)⟩ (fun H locs hI => ?_)
      exact bw_iretX (dd := (r55, cs_48, ln_48)) (rr := (r, cs', ln')) S hr hlocks h (fun q : (Int32 × bw_A1 × Int32) => (bw_xW cy b d t sl hn hs q.2.1 q.2.2 rp rn rt)) (fun q : (Int32 × bw_A1 × Int32) => some (.int q.1)) rfl hI rfl (Nat.le_of_ble_eq_true rfl) (Nat.le_of_ble_eq_true rfl) dX5_append_58 hQ
    rw [if_neg c_30] at h
    exact bw_thr (dd := (0, cs, ln)) (rr := (r, cs', ln')) (k5 := 3) (text := "buffer full") (rest := []) S hl.1 hZ hfl hno hlocks (by decide) h (fun q : (Int32 × bw_A1 × Int32) => (bw_xW cy b d t sl hn hs q.2.1 q.2.2 rp rn rt)) (fun q : (Int32 × bw_A1 × Int32) => some (.int q.1)) hI (by decide +kernel) c_X5_48 x_3 (by decide) at_3 dX5_append_33 dX5_append_36 dX5_append_37 dX5_append_39 dX5_append_42 (Nat.le_of_ble_eq_true rfl) (Nat.le_of_ble_eq_true rfl) ⟨(Nat.le_of_ble_eq_true rfl), (Nat.le_of_ble_eq_true rfl)⟩ (Nat.le_of_ble_eq_true rfl) (Nat.le_of_ble_eq_true rfl) hQ
  rw [if_neg c_8] at h
  exact bw_thr (dd := (0, cs, ln)) (rr := (r, cs', ln')) (k5 := 2) (text := "code out of range") (rest := []) S hl.1 hZ hfl hno hlocks (by decide) h (fun q : (Int32 × bw_A1 × Int32) => (bw_xW cy b d t sl hn hs q.2.1 q.2.2 rp rn rt)) (fun q : (Int32 × bw_A1 × Int32) => some (.int q.1)) hI (by decide +kernel) c_X5_37 x_2 (by decide) at_2 dX5_append_11 dX5_append_14 dX5_append_15 dX5_append_17 dX5_append_20 (Nat.le_of_ble_eq_true rfl) (Nat.le_of_ble_eq_true rfl) ⟨(Nat.le_of_ble_eq_true rfl), (Nat.le_of_ble_eq_true rfl)⟩ (Nat.le_of_ble_eq_true rfl) (Nat.le_of_ble_eq_true rfl) hQ
set_option maxHeartbeats 4000000 in
set_option maxRecDepth 100000 in
theorem mX5_openAll (l : Launch) (hfl : l.stackTraces = false) (G : va_G) (cy : Nat → ClassId) (g : Nat) (b : Nat → Nat → Nat) (d : bw_A2) (t : bw_A2) (sl : bw_A3) (hn : Int32) (hs : Int32) (cs : bw_A1) (ln : Int32) (rp : Int32) (rn : Int32) (rt : Int32) (ec : Nat) (r : Int32) (d' : bw_A2) (sl' : bw_A3) (hn' : Int32) (hs' : Int32) (ln' : Int32) (rp' : Int32) (rn' : Int32) (rt' : Int32) (h : fX5_openAll d sl hn hs cs ln rp rn rt = some (ec, r, d', sl', hn', hs', ln', rp', rn', rt')) : bw_MX l yX5_openAll cX5_openAll 1 (some .int) 6 104 1 G cy g [.ref (b 8 5)] (bw_xW cy b d t sl hn hs cs ln rp rn rt) ec (some (.int r)) (bw_xW cy b d' t sl' hn' hs' cs ln' rp' rn' rt') := by
  refine bw_ofWX (by decide +kernel) RX5 rfl (Nat.le_of_ble_eq_true rfl) ?_
  intro p e s m below meth c ls S hr hlocks hno hK hZ hI hl
  have hx := S.1
  have hb := S.2.1
  have hown := S.2.2.2.1
  have hts := S.2.2.2.2
  generalize va_A _ s.heap.size = A at hI hZ ⊢
  generalize hQ : vx_MQ below _ _ _ s 1 (6 * 1) A = Q
  have hl : lv_has ls 1 [(0, .ref (b 8 5))] := hl
  unfold fX5_openAll at h
  refine lv_aload_n hx hb dX5_openAll_0 rfl (lv_at hl 0 rfl) ?_
  refine bw_get S hK hI 0 3 rfl rfl (by decide) i_X5 f_X5_29 rfl dX5_openAll_1 ?_
  obtain ⟨r4, rp_4, rn_4, rt_4, hc, h⟩ := bw_b4_e h
  refine bw_callV S hK hZ hI (mX4_isWholePlan l G cy g (b 8 2) (b 8 3) (b 8 4) cs ln rp rn rt r4 rp_4 rn_4 rt_4 hc) Y_X4_isWholePlan V_X4_isWholePlan l_X5_148 ⟨(Nat.le_of_ble_eq_true rfl), (Nat.le_of_ble_eq_true rfl)⟩ (q0 := 0) rfl rfl rfl (ws' := (bw_xW cy b d t sl hn hs cs ln rp_4 rn_4 rt_4)) (bw_px_x cy b d t sl hn hs cs ln rp rn rt) (bw_px_x cy b d t sl hn hs cs ln rp_4 rn_4 rt_4).symm rfl rfl hl.1 (rest := []) (st1 := [.int r4]) rfl rfl (Nat.le_of_ble_eq_true rfl) dX5_openAll_4 ⟨(Nat.le_of_ble_eq_true rfl), (Nat.le_of_ble_eq_true rfl)⟩ (fun H locs hI => ?_)
  refine lv_if_ne (tgt := 20) hx hb dX5_openAll_7 (by decide) (fun c_7 => ?_) (fun c_7 => ?_)
  · rw [if_neg c_7] at h
    refine lv_aload_n hx hb dX5_openAll_20 rfl (lv_at hl 0 rfl) ?_
    refine bw_get S hK hI 0 0 rfl rfl (by decide) i_X5 f_X5_12 rfl dX5_openAll_21 ?_
    obtain ⟨r24, hc, h⟩ := bw_b1_e h
    refine bw_callV S hK hZ hI (mX0_projects l G cy g (b 0) (d 0) (d 1) (d 2) (d 3) (d 4) (d 5 0) (d 5 1) r24 hc) Y_X0_projects V_X0_projects l_X5_44 ⟨(Nat.le_of_ble_eq_true rfl), (Nat.le_of_ble_eq_true rfl)⟩ (q0 := 0) rfl rfl rfl (ws' := (bw_xW cy b d t sl hn hs cs ln rp_4 rn_4 rt_4)) (bw_px_d cy b d t sl hn hs cs ln rp_4 rn_4 rt_4) (bw_px_d cy b d t sl hn hs cs ln rp_4 rn_4 rt_4).symm rfl rfl hl.1 (rest := []) (st1 := [.int r24]) rfl rfl (Nat.le_of_ble_eq_true rfl) dX5_openAll_24 ⟨(Nat.le_of_ble_eq_true rfl), (Nat.le_of_ble_eq_true rfl)⟩ (fun H locs hI => ?_)
    refine lv_aload_n hx hb dX5_openAll_27 rfl (lv_at hl 0 rfl) ?_
    refine bw_get S hK hI 0 3 rfl rfl (by decide) i_X5 f_X5_29 rfl dX5_openAll_28 ?_
    obtain ⟨r31, hc, h⟩ := bw_b1_e h
    refine bw_callV S hK hZ hI (mX4_projectsInPlan l G cy g (b 8 2) (b 8 3) (b 8 4) cs ln rp_4 rn_4 rt_4 r31 hc) Y_X4_projectsInPlan V_X4_projectsInPlan l_X5_154 ⟨(Nat.le_of_ble_eq_true rfl), (Nat.le_of_ble_eq_true rfl)⟩ (q0 := 0) rfl rfl rfl (ws' := (bw_xW cy b d t sl hn hs cs ln rp_4 rn_4 rt_4)) (bw_px_x cy b d t sl hn hs cs ln rp_4 rn_4 rt_4) (bw_px_x cy b d t sl hn hs cs ln rp_4 rn_4 rt_4).symm rfl rfl hl.1 (rest := [.int r24]) (st1 := [.int r31, .int r24]) rfl rfl (Nat.le_of_ble_eq_true rfl) dX5_openAll_31 ⟨(Nat.le_of_ble_eq_true rfl), (Nat.le_of_ble_eq_true rfl)⟩ (fun H locs hI => ?_)
    refine lv_iadd hx hb dX5_openAll_34 ?_
    refine lv_bipush (v := 6) hx hb dX5_openAll_35 (by decide) ?_
    refine lv_icmp_le (tgt := 50) hx hb dX5_openAll_37 (by decide) (fun c_37 => ?_) (fun c_37 => ?_)
    · rw [if_pos c_37] at h
      refine lv_aload_n hx hb dX5_openAll_50 rfl (lv_at hl 0 rfl) ?_
      refine bw_get S hK hI 0 2 rfl rfl (by decide) i_X5 f_X5_22 rfl dX5_openAll_51 ?_
      refine lv_aload_n hx hb dX5_openAll_54 rfl (lv_at hl 0 rfl) ?_
      refine bw_get S hK hI 0 0 rfl rfl (by decide) i_X5 f_X5_12 rfl dX5_openAll_55 ?_
      obtain ⟨sl_58, hn_58, hs_58, hc, h⟩ := bw_b3_e h
      refine bw_callV S hK hZ hI (mX1_keep l G cy g b d sl hn hs sl_58 hn_58 hs_58 hc) Y_X1_keep V_X1_keep l_X5_53 ⟨(Nat.le_of_ble_eq_true rfl), (Nat.le_of_ble_eq_true rfl)⟩ (q0 := 0) rfl rfl rfl (ws' := (bw_xW cy b d t sl_58 hn_58 hs_58 cs ln rp_4 rn_4 rt_4)) (bw_px_h cy b d t sl hn hs cs ln rp_4 rn_4 rt_4) (bw_px_h cy b d t sl_58 hn_58 hs_58 cs ln rp_4 rn_4 rt_4).symm rfl rfl hl.1 (rest := []) (st1 := []) rfl rfl (Nat.le_of_ble_eq_true rfl) dX5_openAll_58 ⟨(Nat.le_of_ble_eq_true rfl), (Nat.le_of_ble_eq_true rfl)⟩ (fun H locs hI => ?_)
      refine lv_aload_n hx hb dX5_openAll_61 rfl (lv_at hl 0 rfl) ?_
      obtain ⟨d_62, hc, h⟩ := bw_b1_e h
      refine bw_callV S hK hZ hI (mX5_openProjectsOfText l G cy g b d t sl_58 hn_58 hs_58 cs ln rp_4 rn_4 rt_4 d_62 hc) Y_X5_openProjectsOfText V_X5_openProjectsOfText l_X5_157 ⟨(Nat.le_of_ble_eq_true rfl), (Nat.le_of_ble_eq_true rfl)⟩ (q0 := 0) rfl rfl rfl (ws' := (bw_xW cy b d_62 t sl_58 hn_58 hs_58 cs ln rp_4 rn_4 rt_4)) (bw_pS _) (bw_pS' _) rfl rfl hl.1 (rest := []) (st1 := []) rfl rfl (Nat.le_of_ble_eq_true rfl) dX5_openAll_62 ⟨(Nat.le_of_ble_eq_true rfl), (Nat.le_of_ble_eq_true rfl)⟩ (fun H locs hI => ?_)
      refine lv_aload_n hx hb dX5_openAll_65 rfl (lv_at hl 0 rfl) ?_
      refine bw_get S hK hI 0 3 rfl rfl (by decide) i_X5 f_X5_29 rfl dX5_openAll_66 ?_
      obtain ⟨ln_69, hc, h⟩ := bw_b1_e h
      refine bw_callV S hK hZ hI (mX4_wipe l G cy g (b 8 2) (b 8 3) (b 8 4) cs ln rp_4 rn_4 rt_4 ln_69 hc) Y_X4_wipe V_X4_wipe l_X5_142 ⟨(Nat.le_of_ble_eq_true rfl), (Nat.le_of_ble_eq_true rfl)⟩ (q0 := 0) rfl rfl rfl (ws' := (bw_xW cy b d_62 t sl_58 hn_58 hs_58 cs ln_69 rp_4 rn_4 rt_4)) (bw_px_x cy b d_62 t sl_58 hn_58 hs_58 cs ln rp_4 rn_4 rt_4) (bw_px_x cy b d_62 t sl_58 hn_58 hs_58 cs ln_69 rp_4 rn_4 rt_4).symm rfl rfl hl.1 (rest := []) (st1 := []) rfl rfl (Nat.le_of_ble_eq_true rfl) dX5_openAll_69 ⟨(Nat.le_of_ble_eq_true rfl), (Nat.le_of_ble_eq_true rfl)⟩ (fun H locs hI => ?_)
      refine lv_aload_n hx hb dX5_openAll_72 rfl (lv_at hl 0 rfl) ?_
      refine bw_get S hK hI 0 0 rfl rfl (by decide) i_X5 f_X5_12 rfl dX5_openAll_73 ?_
      obtain ⟨r76, hc, h⟩ := bw_b1_e h
      refine bw_callV S hK hZ hI (mX0_projects l G cy g (b 0) (d_62 0) (d_62 1) (d_62 2) (d_62 3) (d_62 4) (d_62 5 0) (d_62 5 1) r76 hc) Y_X0_projects V_X0_projects l_X5_44 ⟨(Nat.le_of_ble_eq_true rfl), (Nat.le_of_ble_eq_true rfl)⟩ (q0 := 0) rfl rfl rfl (ws' := (bw_xW cy b d_62 t sl_58 hn_58 hs_58 cs ln_69 rp_4 rn_4 rt_4)) (bw_px_d cy b d_62 t sl_58 hn_58 hs_58 cs ln_69 rp_4 rn_4 rt_4) (bw_px_d cy b d_62 t sl_58 hn_58 hs_58 cs ln_69 rp_4 rn_4 rt_4).symm rfl rfl hl.1 (rest := []) (st1 := [.int r76]) rfl rfl (Nat.le_of_ble_eq_true rfl) dX5_openAll_76 ⟨(Nat.le_of_ble_eq_true rfl), (Nat.le_of_ble_eq_true rfl)⟩ (fun H locs hI => ?_)
      exact bw_iretX (dd := (r76, d_62, sl_58, hn_58, hs_58, ln_69, rp_4, rn_4, rt_4)) (rr := (r, d', sl', hn', hs', ln', rp', rn', rt')) S hr hlocks h (fun q : (Int32 × bw_A2 × bw_A3 × Int32 × Int32 × Int32 × Int32 × Int32 × Int32) => (bw_xW cy b q.2.1 t q.2.2.1 q.2.2.2.1 q.2.2.2.2.1 cs q.2.2.2.2.2.1 q.2.2.2.2.2.2.1 q.2.2.2.2.2.2.2.1 q.2.2.2.2.2.2.2.2)) (fun q : (Int32 × bw_A2 × bw_A3 × Int32 × Int32 × Int32 × Int32 × Int32 × Int32) => some (.int q.1)) rfl hI rfl (Nat.le_of_ble_eq_true rfl) (Nat.le_of_ble_eq_true rfl) dX5_openAll_79 hQ
    rw [if_neg c_37] at h
    exact bw_thr (dd := (0, d, sl, hn, hs, ln, rp_4, rn_4, rt_4)) (rr := (r, d', sl', hn', hs', ln', rp', rn', rt')) (k5 := 3) (text := "too many projects") (rest := []) S hl.1 hZ hfl hno hlocks (by decide) h (fun q : (Int32 × bw_A2 × bw_A3 × Int32 × Int32 × Int32 × Int32 × Int32 × Int32) => (bw_xW cy b q.2.1 t q.2.2.1 q.2.2.2.1 q.2.2.2.2.1 cs q.2.2.2.2.2.1 q.2.2.2.2.2.2.1 q.2.2.2.2.2.2.2.1 q.2.2.2.2.2.2.2.2)) (fun q : (Int32 × bw_A2 × bw_A3 × Int32 × Int32 × Int32 × Int32 × Int32 × Int32) => some (.int q.1)) hI (by decide +kernel) c_X5_48 x_3 (by decide) at_3 dX5_openAll_40 dX5_openAll_43 dX5_openAll_44 dX5_openAll_46 dX5_openAll_49 (Nat.le_of_ble_eq_true rfl) (Nat.le_of_ble_eq_true rfl) ⟨(Nat.le_of_ble_eq_true rfl), (Nat.le_of_ble_eq_true rfl)⟩ (Nat.le_of_ble_eq_true rfl) (Nat.le_of_ble_eq_true rfl) hQ
  rw [if_pos c_7] at h
  exact bw_thr (dd := (0, d, sl, hn, hs, ln, rp_4, rn_4, rt_4)) (rr := (r, d', sl', hn', hs', ln', rp', rn', rt')) (k5 := 2) (text := "no complete plan") (rest := []) S hl.1 hZ hfl hno hlocks (by decide) h (fun q : (Int32 × bw_A2 × bw_A3 × Int32 × Int32 × Int32 × Int32 × Int32 × Int32) => (bw_xW cy b q.2.1 t q.2.2.1 q.2.2.2.1 q.2.2.2.2.1 cs q.2.2.2.2.2.1 q.2.2.2.2.2.2.1 q.2.2.2.2.2.2.2.1 q.2.2.2.2.2.2.2.2)) (fun q : (Int32 × bw_A2 × bw_A3 × Int32 × Int32 × Int32 × Int32 × Int32 × Int32) => some (.int q.1)) hI (by decide +kernel) c_X5_37 x_2 (by decide) at_2 dX5_openAll_10 dX5_openAll_13 dX5_openAll_14 dX5_openAll_16 dX5_openAll_19 (Nat.le_of_ble_eq_true rfl) (Nat.le_of_ble_eq_true rfl) ⟨(Nat.le_of_ble_eq_true rfl), (Nat.le_of_ble_eq_true rfl)⟩ (Nat.le_of_ble_eq_true rfl) (Nat.le_of_ble_eq_true rfl) hQ
set_option maxHeartbeats 4000000 in
set_option maxRecDepth 100000 in
theorem mX5_undo (l : Launch) (hfl : l.stackTraces = false) (G : va_G) (cy : Nat → ClassId) (g : Nat) (b : Nat → Nat → Nat) (d : bw_A2) (t : bw_A2) (sl : bw_A3) (hn : Int32) (hs : Int32) (cs : bw_A1) (ln : Int32) (rp : Int32) (rn : Int32) (rt : Int32) (ec : Nat) (r : Int32) (d' : bw_A2) (hn' : Int32) (hs' : Int32) (h : fX5_undo d sl hn hs = some (ec, r, d', hn', hs')) : bw_MX l yX5_undo cX5_undo 1 (some .int) 6 89 1 G cy g [.ref (b 8 5)] (bw_xW cy b d t sl hn hs cs ln rp rn rt) ec (some (.int r)) (bw_xW cy b d' t sl hn' hs' cs ln rp rn rt) := by
  refine bw_ofWX (by decide +kernel) RX5 rfl (Nat.le_of_ble_eq_true rfl) ?_
  intro p e s m below meth c ls S hr hlocks hno hK hZ hI hl
  have hx := S.1
  have hb := S.2.1
  have hown := S.2.2.2.1
  have hts := S.2.2.2.2
  generalize va_A _ s.heap.size = A at hI hZ ⊢
  generalize hQ : vx_MQ below _ _ _ s 1 (6 * 1) A = Q
  have hl : lv_has ls 1 [(0, .ref (b 8 5))] := hl
  unfold fX5_undo at h
  refine lv_aload_n hx hb dX5_undo_0 rfl (lv_at hl 0 rfl) ?_
  refine bw_get S hK hI 0 2 rfl rfl (by decide) i_X5 f_X5_22 rfl dX5_undo_1 ?_
  obtain ⟨r4, hc, h⟩ := bw_b1_e h
  refine bw_callV S hK hZ hI (mX1_size l G cy g b d sl hn hs r4 hc) Y_X1_size V_X1_size l_X5_160 ⟨(Nat.le_of_ble_eq_true rfl), (Nat.le_of_ble_eq_true rfl)⟩ (q0 := 0) rfl rfl rfl (ws' := (bw_xW cy b d t sl hn hs cs ln rp rn rt)) (bw_px_h cy b d t sl hn hs cs ln rp rn rt) (bw_px_h cy b d t sl hn hs cs ln rp rn rt).symm rfl rfl hl.1 (rest := []) (st1 := [.int r4]) rfl rfl (Nat.le_of_ble_eq_true rfl) dX5_undo_4 ⟨(Nat.le_of_ble_eq_true rfl), (Nat.le_of_ble_eq_true rfl)⟩ (fun H locs hI => ?_)
  refine lv_if_ne (tgt := 20) hx hb dX5_undo_7 (by decide) (fun c_7 => ?_) (fun c_7 => ?_)
  · rw [if_neg c_7] at h
    refine lv_aload_n hx hb dX5_undo_20 rfl (lv_at hl 0 rfl) ?_
    refine bw_get S hK hI 0 2 rfl rfl (by decide) i_X5 f_X5_22 rfl dX5_undo_21 ?_
    refine lv_aload_n hx hb dX5_undo_24 rfl (lv_at hl 0 rfl) ?_
    refine bw_get S hK hI 0 0 rfl rfl (by decide) i_X5 f_X5_12 rfl dX5_undo_25 ?_
    obtain ⟨d_28, hn_28, hs_28, hc, h⟩ := bw_b3_e h
    refine bw_callV S hK hZ hI (mX1_giveBack l G cy g b d sl hn hs d_28 hn_28 hs_28 hc) Y_X1_giveBack V_X1_giveBack l_X5_165 ⟨(Nat.le_of_ble_eq_true rfl), (Nat.le_of_ble_eq_true rfl)⟩ (q0 := 0) rfl rfl rfl (ws' := (bw_xW cy b d_28 t sl hn_28 hs_28 cs ln rp rn rt)) (bw_px_h cy b d t sl hn hs cs ln rp rn rt) (bw_px_h cy b d_28 t sl hn_28 hs_28 cs ln rp rn rt).symm rfl rfl hl.1 (rest := []) (st1 := []) rfl rfl (Nat.le_of_ble_eq_true rfl) dX5_undo_28 ⟨(Nat.le_of_ble_eq_true rfl), (Nat.le_of_ble_eq_true rfl)⟩ (fun H locs hI => ?_)
    refine lv_aload_n hx hb dX5_undo_31 rfl (lv_at hl 0 rfl) ?_
    refine bw_get S hK hI 0 2 rfl rfl (by decide) i_X5 f_X5_22 rfl dX5_undo_32 ?_
    obtain ⟨r35, hc, h⟩ := bw_b1_e h
    refine bw_callV S hK hZ hI (mX1_size l G cy g b d_28 sl hn_28 hs_28 r35 hc) Y_X1_size V_X1_size l_X5_160 ⟨(Nat.le_of_ble_eq_true rfl), (Nat.le_of_ble_eq_true rfl)⟩ (q0 := 0) rfl rfl rfl (ws' := (bw_xW cy b d_28 t sl hn_28 hs_28 cs ln rp rn rt)) (bw_px_h cy b d_28 t sl hn_28 hs_28 cs ln rp rn rt) (bw_px_h cy b d_28 t sl hn_28 hs_28 cs ln rp rn rt).symm rfl rfl hl.1 (rest := []) (st1 := [.int r35]) rfl rfl (Nat.le_of_ble_eq_true rfl) dX5_undo_35 ⟨(Nat.le_of_ble_eq_true rfl), (Nat.le_of_ble_eq_true rfl)⟩ (fun H locs hI => ?_)
    exact bw_iretX (dd := (r35, d_28, hn_28, hs_28)) (rr := (r, d', hn', hs')) S hr hlocks h (fun q : (Int32 × bw_A2 × Int32 × Int32) => (bw_xW cy b q.2.1 t sl q.2.2.1 q.2.2.2 cs ln rp rn rt)) (fun q : (Int32 × bw_A2 × Int32 × Int32) => some (.int q.1)) rfl hI rfl (Nat.le_of_ble_eq_true rfl) (Nat.le_of_ble_eq_true rfl) dX5_undo_38 hQ
  rw [if_pos c_7] at h
  exact bw_thr (dd := (0, d, hn, hs)) (rr := (r, d', hn', hs')) (k5 := 3) (text := "nothing saved") (rest := []) S hl.1 hZ hfl hno hlocks (by decide) h (fun q : (Int32 × bw_A2 × Int32 × Int32) => (bw_xW cy b q.2.1 t sl q.2.2.1 q.2.2.2 cs ln rp rn rt)) (fun q : (Int32 × bw_A2 × Int32 × Int32) => some (.int q.1)) hI (by decide +kernel) c_X5_48 x_3 (by decide) at_3 dX5_undo_10 dX5_undo_13 dX5_undo_14 dX5_undo_16 dX5_undo_19 (Nat.le_of_ble_eq_true rfl) (Nat.le_of_ble_eq_true rfl) ⟨(Nat.le_of_ble_eq_true rfl), (Nat.le_of_ble_eq_true rfl)⟩ (Nat.le_of_ble_eq_true rfl) (Nat.le_of_ble_eq_true rfl) hQ
set_option maxHeartbeats 4000000 in
set_option maxRecDepth 100000 in
theorem mX5_project (l : Launch) (hfl : l.stackTraces = false) (G : va_G) (cy : Nat → ClassId) (g : Nat) (b : Nat → Nat → Nat) (d : bw_A2) (t : bw_A2) (sl : bw_A3) (hn : Int32) (hs : Int32) (cs : bw_A1) (ln : Int32) (rp : Int32) (rn : Int32) (rt : Int32) (p1 : Int32) (p2 : Int32) (ec : Nat) (r : Int32) (h : fX5_project d p1 p2 = some (ec, r)) : bw_MX l yX5_project cX5_project 3 (some .int) 7 103 2 G cy g [.ref (b 8 5), .int p1, .int p2] (bw_xW cy b d t sl hn hs cs ln rp rn rt) ec (some (.int r)) (bw_xW cy b d t sl hn hs cs ln rp rn rt) := by
  refine bw_ofWX (by decide +kernel) RX5 rfl (Nat.le_of_ble_eq_true rfl) ?_
  intro p e s m below meth c ls S hr hlocks hno hK hZ hI hl
  have hx := S.1
  have hb := S.2.1
  have hown := S.2.2.2.1
  have hts := S.2.2.2.2
  generalize va_A _ s.heap.size = A at hI hZ ⊢
  generalize hQ : vx_MQ below _ _ _ s 2 (6 * 2) A = Q
  have hl : lv_has ls 3 [(0, .ref (b 8 5)), (1, .int p1), (2, .int p2)] := hl
  unfold fX5_project at h
  refine lv_aload_n hx hb dX5_project_0 rfl (lv_at hl 0 rfl) ?_
  refine lv_iload_n hx hb dX5_project_1 rfl (lv_at hl 1 rfl) ?_
  obtain ⟨k2, hc, h⟩ := bw_b1_e h
  refine bw_callVX S hK hZ hI (mX5_needProject l hfl G cy g b d t sl hn hs cs ln rp rn rt p1 k2 hc) Y_X5_needProject V_X5_needProject l_X5_61 ⟨(Nat.le_of_ble_eq_true rfl), (Nat.le_of_ble_eq_true rfl)⟩ (q0 := 0) rfl rfl rfl (ws' := (bw_xW cy b d t sl hn hs cs ln rp rn rt)) (bw_pS _) (bw_pS' _) rfl rfl hl.1 (rest := []) (st1 := []) rfl rfl (Nat.le_of_ble_eq_true rfl) dX5_project_2 ⟨(Nat.le_of_ble_eq_true rfl), (Nat.le_of_ble_eq_true rfl)⟩ (fun h0 q ce H locs hI h1 h2 h3 => ?_) (fun h0 H locs hI => ?_)
  · have h := bw_thn_f h h0
    exact bw_outX (dd := 0) (rr := r) hno hlocks h0 h (fun q : Int32 => (bw_xW cy b d t sl hn hs cs ln rp rn rt)) (fun q : Int32 => some (.int q)) hI h1 h2 h3 (Nat.le_of_ble_eq_true rfl) (Nat.le_of_ble_eq_true rfl) hQ
  have h := bw_thn_t h h0
  refine lv_iload_n hx hb dX5_project_5 rfl (lv_at hl 2 rfl) ?_
  refine lv_iconst (v := 0) hx hb dX5_project_6 rfl ?_
  refine lv_bipush (v := 14) hx hb dX5_project_7 (by decide) ?_
  obtain ⟨r9, hc, h⟩ := bw_b1_e h
  refine bw_callP S hK hZ hI (mX5_isOutside l G cy g p2 0 14 r9 hc) Y_X5_isOutside V_X5_isOutside l_X5_33 ⟨(Nat.le_of_ble_eq_true rfl), (Nat.le_of_ble_eq_true rfl)⟩ (rest := []) (st1 := [.int r9]) rfl hl.1 rfl rfl (Nat.le_of_ble_eq_true rfl) dX5_project_9 ⟨(Nat.le_of_ble_eq_true rfl), (Nat.le_of_ble_eq_true rfl)⟩ (fun H locs hI => ?_)
  refine lv_if_eq (tgt := 25) hx hb dX5_project_12 (by decide) (fun c_12 => ?_) (fun c_12 => ?_)
  · rw [if_pos c_12] at h
    refine lv_aload_n hx hb dX5_project_25 rfl (lv_at hl 0 rfl) ?_
    refine bw_get S hK hI 0 0 rfl rfl (by decide) i_X5 f_X5_12 rfl dX5_project_26 ?_
    refine lv_iload_n hx hb dX5_project_29 rfl (lv_at hl 1 rfl) ?_
    refine lv_iload_n hx hb dX5_project_30 rfl (lv_at hl 2 rfl) ?_
    obtain ⟨r31, hc, h⟩ := bw_b1_e h
    refine bw_callV S hK hZ hI (mX0_projectPart l G cy g (b 0) (d 0) (d 1) (d 2) (d 3) (d 4) (d 5 0) (d 5 1) p1 p2 r31 hc) Y_X0_projectPart V_X0_projectPart l_X5_71 ⟨(Nat.le_of_ble_eq_true rfl), (Nat.le_of_ble_eq_true rfl)⟩ (q0 := 0) rfl rfl rfl (ws' := (bw_xW cy b d t sl hn hs cs ln rp rn rt)) (bw_px_d cy b d t sl hn hs cs ln rp rn rt) (bw_px_d cy b d t sl hn hs cs ln rp rn rt).symm rfl rfl hl.1 (rest := []) (st1 := [.int r31]) rfl rfl (Nat.le_of_ble_eq_true rfl) dX5_project_31 ⟨(Nat.le_of_ble_eq_true rfl), (Nat.le_of_ble_eq_true rfl)⟩ (fun H locs hI => ?_)
    exact bw_iretX (dd := r31) (rr := r) S hr hlocks h (fun q : Int32 => (bw_xW cy b d t sl hn hs cs ln rp rn rt)) (fun q : Int32 => some (.int q)) rfl hI rfl (Nat.le_of_ble_eq_true rfl) (Nat.le_of_ble_eq_true rfl) dX5_project_34 hQ
  rw [if_neg c_12] at h
  exact bw_thr (dd := 0) (rr := r) (k5 := 2) (text := "no such property") (rest := []) S hl.1 hZ hfl hno hlocks (by decide) h (fun q : Int32 => (bw_xW cy b d t sl hn hs cs ln rp rn rt)) (fun q : Int32 => some (.int q)) hI (by decide +kernel) c_X5_37 x_2 (by decide) at_2 dX5_project_15 dX5_project_18 dX5_project_19 dX5_project_21 dX5_project_24 (Nat.le_of_ble_eq_true rfl) (Nat.le_of_ble_eq_true rfl) ⟨(Nat.le_of_ble_eq_true rfl), (Nat.le_of_ble_eq_true rfl)⟩ (Nat.le_of_ble_eq_true rfl) (Nat.le_of_ble_eq_true rfl) hQ
set_option maxHeartbeats 4000000 in
set_option maxRecDepth 100000 in
theorem mX5_task (l : Launch) (hfl : l.stackTraces = false) (G : va_G) (cy : Nat → ClassId) (g : Nat) (b : Nat → Nat → Nat) (d : bw_A2) (t : bw_A2) (sl : bw_A3) (hn : Int32) (hs : Int32) (cs : bw_A1) (ln : Int32) (rp : Int32) (rn : Int32) (rt : Int32) (p1 : Int32) (p2 : Int32) (p3 : Int32) (ec : Nat) (r : Int32) (h : fX5_task d p1 p2 p3 = some (ec, r)) : bw_MX l yX5_task cX5_task 4 (some .int) 7 103 2 G cy g [.ref (b 8 5), .int p1, .int p2, .int p3] (bw_xW cy b d t sl hn hs cs ln rp rn rt) ec (some (.int r)) (bw_xW cy b d t sl hn hs cs ln rp rn rt) := by
  refine bw_ofWX (by decide +kernel) RX5 rfl (Nat.le_of_ble_eq_true rfl) ?_
  intro p e s m below meth c ls S hr hlocks hno hK hZ hI hl
  have hx := S.1
  have hb := S.2.1
  have hown := S.2.2.2.1
  have hts := S.2.2.2.2
  generalize va_A _ s.heap.size = A at hI hZ ⊢
  generalize hQ : vx_MQ below _ _ _ s 2 (6 * 2) A = Q
  have hl : lv_has ls 4 [(0, .ref (b 8 5)), (1, .int p1), (2, .int p2), (3, .int p3)] := hl
  unfold fX5_task at h
  refine lv_aload_n hx hb dX5_task_0 rfl (lv_at hl 0 rfl) ?_
  refine lv_iload_n hx hb dX5_task_1 rfl (lv_at hl 1 rfl) ?_
  obtain ⟨k2, hc, h⟩ := bw_b1_e h
  refine bw_callVX S hK hZ hI (mX5_needProject l hfl G cy g b d t sl hn hs cs ln rp rn rt p1 k2 hc) Y_X5_needProject V_X5_needProject l_X5_61 ⟨(Nat.le_of_ble_eq_true rfl), (Nat.le_of_ble_eq_true rfl)⟩ (q0 := 0) rfl rfl rfl (ws' := (bw_xW cy b d t sl hn hs cs ln rp rn rt)) (bw_pS _) (bw_pS' _) rfl rfl hl.1 (rest := []) (st1 := []) rfl rfl (Nat.le_of_ble_eq_true rfl) dX5_task_2 ⟨(Nat.le_of_ble_eq_true rfl), (Nat.le_of_ble_eq_true rfl)⟩ (fun h0 q ce H locs hI h1 h2 h3 => ?_) (fun h0 H locs hI => ?_)
  · have h := bw_thn_f h h0
    exact bw_outX (dd := 0) (rr := r) hno hlocks h0 h (fun q : Int32 => (bw_xW cy b d t sl hn hs cs ln rp rn rt)) (fun q : Int32 => some (.int q)) hI h1 h2 h3 (Nat.le_of_ble_eq_true rfl) (Nat.le_of_ble_eq_true rfl) hQ
  have h := bw_thn_t h h0
  refine lv_iload_n hx hb dX5_task_5 rfl (lv_at hl 2 rfl) ?_
  refine lv_iconst (v := 0) hx hb dX5_task_6 rfl ?_
  refine lv_aload_n hx hb dX5_task_7 rfl (lv_at hl 0 rfl) ?_
  refine bw_get S hK hI 0 0 rfl rfl (by decide) i_X5 f_X5_12 rfl dX5_task_8 ?_
  refine lv_iload_n hx hb dX5_task_11 rfl (lv_at hl 1 rfl) ?_
  refine lv_bipush (v := 7) hx hb dX5_task_12 (by decide) ?_
  obtain ⟨r14, hc, h⟩ := bw_b1_e h
  refine bw_callV S hK hZ hI (mX0_projectPart l G cy g (b 0) (d 0) (d 1) (d 2) (d 3) (d 4) (d 5 0) (d 5 1) p1 7 r14 hc) Y_X0_projectPart V_X0_projectPart l_X5_71 ⟨(Nat.le_of_ble_eq_true rfl), (Nat.le_of_ble_eq_true rfl)⟩ (q0 := 0) rfl rfl rfl (ws' := (bw_xW cy b d t sl hn hs cs ln rp rn rt)) (bw_px_d cy b d t sl hn hs cs ln rp rn rt) (bw_px_d cy b d t sl hn hs cs ln rp rn rt).symm rfl rfl hl.1 (rest := [.int 0, .int p2]) (st1 := [.int r14, .int 0, .int p2]) rfl rfl (Nat.le_of_ble_eq_true rfl) dX5_task_14 ⟨(Nat.le_of_ble_eq_true rfl), (Nat.le_of_ble_eq_true rfl)⟩ (fun H locs hI => ?_)
  refine lv_iconst (v := 1) hx hb dX5_task_17 rfl ?_
  refine lv_isub hx hb dX5_task_18 ?_
  obtain ⟨r19, hc, h⟩ := bw_b1_e h
  refine bw_callP S hK hZ hI (mX5_isOutside l G cy g p2 0 (r14 - 1) r19 hc) Y_X5_isOutside V_X5_isOutside l_X5_33 ⟨(Nat.le_of_ble_eq_true rfl), (Nat.le_of_ble_eq_true rfl)⟩ (rest := []) (st1 := [.int r19]) rfl hl.1 rfl rfl (Nat.le_of_ble_eq_true rfl) dX5_task_19 ⟨(Nat.le_of_ble_eq_true rfl), (Nat.le_of_ble_eq_true rfl)⟩ (fun H locs hI => ?_)
  refine lv_if_eq (tgt := 35) hx hb dX5_task_22 (by decide) (fun c_22 => ?_) (fun c_22 => ?_)
  · rw [if_pos c_22] at h
    refine lv_iload_n hx hb dX5_task_35 rfl (lv_at hl 3 rfl) ?_
    refine lv_iconst (v := 0) hx hb dX5_task_36 rfl ?_
    refine lv_iconst (v := 5) hx hb dX5_task_37 rfl ?_
    obtain ⟨r38, hc, h⟩ := bw_b1_e h
    refine bw_callP S hK hZ hI (mX5_isOutside l G cy g p3 0 5 r38 hc) Y_X5_isOutside V_X5_isOutside l_X5_33 ⟨(Nat.le_of_ble_eq_true rfl), (Nat.le_of_ble_eq_true rfl)⟩ (rest := []) (st1 := [.int r38]) rfl hl.1 rfl rfl (Nat.le_of_ble_eq_true rfl) dX5_task_38 ⟨(Nat.le_of_ble_eq_true rfl), (Nat.le_of_ble_eq_true rfl)⟩ (fun H locs hI => ?_)
    refine lv_if_eq (tgt := 54) hx hb dX5_task_41 (by decide) (fun c_41 => ?_) (fun c_41 => ?_)
    · rw [if_pos c_41] at h
      refine lv_aload_n hx hb dX5_task_54 rfl (lv_at hl 0 rfl) ?_
      refine bw_get S hK hI 0 0 rfl rfl (by decide) i_X5 f_X5_12 rfl dX5_task_55 ?_
      refine lv_iload_n hx hb dX5_task_58 rfl (lv_at hl 1 rfl) ?_
      refine lv_iload_n hx hb dX5_task_59 rfl (lv_at hl 2 rfl) ?_
      refine lv_iload_n hx hb dX5_task_60 rfl (lv_at hl 3 rfl) ?_
      obtain ⟨r61, hc, h⟩ := bw_b1_e h
      refine bw_callV S hK hZ hI (mX0_taskPart l G cy g (b 0) (d 0) (d 1) (d 2) (d 3) (d 4) (d 5 0) (d 5 1) p1 p2 p3 r61 hc) Y_X0_taskPart V_X0_taskPart l_X5_175 ⟨(Nat.le_of_ble_eq_true rfl), (Nat.le_of_ble_eq_true rfl)⟩ (q0 := 0) rfl rfl rfl (ws' := (bw_xW cy b d t sl hn hs cs ln rp rn rt)) (bw_px_d cy b d t sl hn hs cs ln rp rn rt) (bw_px_d cy b d t sl hn hs cs ln rp rn rt).symm rfl rfl hl.1 (rest := []) (st1 := [.int r61]) rfl rfl (Nat.le_of_ble_eq_true rfl) dX5_task_61 ⟨(Nat.le_of_ble_eq_true rfl), (Nat.le_of_ble_eq_true rfl)⟩ (fun H locs hI => ?_)
      exact bw_iretX (dd := r61) (rr := r) S hr hlocks h (fun q : Int32 => (bw_xW cy b d t sl hn hs cs ln rp rn rt)) (fun q : Int32 => some (.int q)) rfl hI rfl (Nat.le_of_ble_eq_true rfl) (Nat.le_of_ble_eq_true rfl) dX5_task_64 hQ
    rw [if_neg c_41] at h
    exact bw_thr (dd := 0) (rr := r) (k5 := 2) (text := "no such property") (rest := []) S hl.1 hZ hfl hno hlocks (by decide) h (fun q : Int32 => (bw_xW cy b d t sl hn hs cs ln rp rn rt)) (fun q : Int32 => some (.int q)) hI (by decide +kernel) c_X5_37 x_2 (by decide) at_2 dX5_task_44 dX5_task_47 dX5_task_48 dX5_task_50 dX5_task_53 (Nat.le_of_ble_eq_true rfl) (Nat.le_of_ble_eq_true rfl) ⟨(Nat.le_of_ble_eq_true rfl), (Nat.le_of_ble_eq_true rfl)⟩ (Nat.le_of_ble_eq_true rfl) (Nat.le_of_ble_eq_true rfl) hQ
  rw [if_neg c_22] at h
  exact bw_thr (dd := 0) (rr := r) (k5 := 1) (text := "no such task") (rest := []) S hl.1 hZ hfl hno hlocks (by decide) h (fun q : Int32 => (bw_xW cy b d t sl hn hs cs ln rp rn rt)) (fun q : Int32 => some (.int q)) hI (by decide +kernel) c_X5_170 x_1 (by decide) at_1 dX5_task_25 dX5_task_28 dX5_task_29 dX5_task_31 dX5_task_34 (Nat.le_of_ble_eq_true rfl) (Nat.le_of_ble_eq_true rfl) ⟨(Nat.le_of_ble_eq_true rfl), (Nat.le_of_ble_eq_true rfl)⟩ (Nat.le_of_ble_eq_true rfl) (Nat.le_of_ble_eq_true rfl) hQ
set_option maxHeartbeats 4000000 in
set_option maxRecDepth 100000 in
theorem mX5_loan (l : Launch) (hfl : l.stackTraces = false) (G : va_G) (cy : Nat → ClassId) (g : Nat) (b : Nat → Nat → Nat) (d : bw_A2) (t : bw_A2) (sl : bw_A3) (hn : Int32) (hs : Int32) (cs : bw_A1) (ln : Int32) (rp : Int32) (rn : Int32) (rt : Int32) (p1 : Int32) (p2 : Int32) (ec : Nat) (r : Int32) (h : fX5_loan d p1 p2 = some (ec, r)) : bw_MX l yX5_loan cX5_loan 3 (some .int) 6 82 1 G cy g [.ref (b 8 5), .int p1, .int p2] (bw_xW cy b d t sl hn hs cs ln rp rn rt) ec (some (.int r)) (bw_xW cy b d t sl hn hs cs ln rp rn rt) := by
  refine bw_ofWX (by decide +kernel) RX5 rfl (Nat.le_of_ble_eq_true rfl) ?_
  intro p e s m below meth c ls S hr hlocks hno hK hZ hI hl
  have hx := S.1
  have hb := S.2.1
  have hown := S.2.2.2.1
  have hts := S.2.2.2.2
  generalize va_A _ s.heap.size = A at hI hZ ⊢
  generalize hQ : vx_MQ below _ _ _ s 1 (6 * 1) A = Q
  have hl : lv_has ls 3 [(0, .ref (b 8 5)), (1, .int p1), (2, .int p2)] := hl
  unfold fX5_loan at h
  refine lv_iload_n hx hb dX5_loan_0 rfl (lv_at hl 1 rfl) ?_
  refine lv_iconst (v := 0) hx hb dX5_loan_1 rfl ?_
  refine lv_aload_n hx hb dX5_loan_2 rfl (lv_at hl 0 rfl) ?_
  refine bw_get S hK hI 0 0 rfl rfl (by decide) i_X5 f_X5_12 rfl dX5_loan_3 ?_
  obtain ⟨r6, hc, h⟩ := bw_b1_e h
  refine bw_callV S hK hZ hI (mX0_loans l G cy g (b 0) (d 0) (d 1) (d 2) (d 3) (d 4) (d 5 0) (d 5 1) r6 hc) Y_X0_loans V_X0_loans l_X5_179 ⟨(Nat.le_of_ble_eq_true rfl), (Nat.le_of_ble_eq_true rfl)⟩ (q0 := 0) rfl rfl rfl (ws' := (bw_xW cy b d t sl hn hs cs ln rp rn rt)) (bw_px_d cy b d t sl hn hs cs ln rp rn rt) (bw_px_d cy b d t sl hn hs cs ln rp rn rt).symm rfl rfl hl.1 (rest := [.int 0, .int p1]) (st1 := [.int r6, .int 0, .int p1]) rfl rfl (Nat.le_of_ble_eq_true rfl) dX5_loan_6 ⟨(Nat.le_of_ble_eq_true rfl), (Nat.le_of_ble_eq_true rfl)⟩ (fun H locs hI => ?_)
  refine lv_iconst (v := 1) hx hb dX5_loan_9 rfl ?_
  refine lv_isub hx hb dX5_loan_10 ?_
  obtain ⟨r11, hc, h⟩ := bw_b1_e h
  refine bw_callP S hK hZ hI (mX5_isOutside l G cy g p1 0 (r6 - 1) r11 hc) Y_X5_isOutside V_X5_isOutside l_X5_33 ⟨(Nat.le_of_ble_eq_true rfl), (Nat.le_of_ble_eq_true rfl)⟩ (rest := []) (st1 := [.int r11]) rfl hl.1 rfl rfl (Nat.le_of_ble_eq_true rfl) dX5_loan_11 ⟨(Nat.le_of_ble_eq_true rfl), (Nat.le_of_ble_eq_true rfl)⟩ (fun H locs hI => ?_)
  refine lv_if_eq (tgt := 27) hx hb dX5_loan_14 (by decide) (fun c_14 => ?_) (fun c_14 => ?_)
  · rw [if_pos c_14] at h
    refine lv_iload_n hx hb dX5_loan_27 rfl (lv_at hl 2 rfl) ?_
    refine lv_iconst (v := 0) hx hb dX5_loan_28 rfl ?_
    refine lv_iconst (v := 2) hx hb dX5_loan_29 rfl ?_
    obtain ⟨r30, hc, h⟩ := bw_b1_e h
    refine bw_callP S hK hZ hI (mX5_isOutside l G cy g p2 0 2 r30 hc) Y_X5_isOutside V_X5_isOutside l_X5_33 ⟨(Nat.le_of_ble_eq_true rfl), (Nat.le_of_ble_eq_true rfl)⟩ (rest := []) (st1 := [.int r30]) rfl hl.1 rfl rfl (Nat.le_of_ble_eq_true rfl) dX5_loan_30 ⟨(Nat.le_of_ble_eq_true rfl), (Nat.le_of_ble_eq_true rfl)⟩ (fun H locs hI => ?_)
    refine lv_if_eq (tgt := 46) hx hb dX5_loan_33 (by decide) (fun c_33 => ?_) (fun c_33 => ?_)
    · rw [if_pos c_33] at h
      refine lv_aload_n hx hb dX5_loan_46 rfl (lv_at hl 0 rfl) ?_
      refine bw_get S hK hI 0 0 rfl rfl (by decide) i_X5 f_X5_12 rfl dX5_loan_47 ?_
      refine lv_iload_n hx hb dX5_loan_50 rfl (lv_at hl 1 rfl) ?_
      refine lv_iload_n hx hb dX5_loan_51 rfl (lv_at hl 2 rfl) ?_
      obtain ⟨r52, hc, h⟩ := bw_b1_e h
      refine bw_callV S hK hZ hI (mX0_loanPart l G cy g (b 0) (d 0) (d 1) (d 2) (d 3) (d 4) (d 5 0) (d 5 1) p1 p2 r52 hc) Y_X0_loanPart V_X0_loanPart l_X5_186 ⟨(Nat.le_of_ble_eq_true rfl), (Nat.le_of_ble_eq_true rfl)⟩ (q0 := 0) rfl rfl rfl (ws' := (bw_xW cy b d t sl hn hs cs ln rp rn rt)) (bw_px_d cy b d t sl hn hs cs ln rp rn rt) (bw_px_d cy b d t sl hn hs cs ln rp rn rt).symm rfl rfl hl.1 (rest := []) (st1 := [.int r52]) rfl rfl (Nat.le_of_ble_eq_true rfl) dX5_loan_52 ⟨(Nat.le_of_ble_eq_true rfl), (Nat.le_of_ble_eq_true rfl)⟩ (fun H locs hI => ?_)
      exact bw_iretX (dd := r52) (rr := r) S hr hlocks h (fun q : Int32 => (bw_xW cy b d t sl hn hs cs ln rp rn rt)) (fun q : Int32 => some (.int q)) rfl hI rfl (Nat.le_of_ble_eq_true rfl) (Nat.le_of_ble_eq_true rfl) dX5_loan_55 hQ
    rw [if_neg c_33] at h
    exact bw_thr (dd := 0) (rr := r) (k5 := 2) (text := "no such part") (rest := []) S hl.1 hZ hfl hno hlocks (by decide) h (fun q : Int32 => (bw_xW cy b d t sl hn hs cs ln rp rn rt)) (fun q : Int32 => some (.int q)) hI (by decide +kernel) c_X5_37 x_2 (by decide) at_2 dX5_loan_36 dX5_loan_39 dX5_loan_40 dX5_loan_42 dX5_loan_45 (Nat.le_of_ble_eq_true rfl) (Nat.le_of_ble_eq_true rfl) ⟨(Nat.le_of_ble_eq_true rfl), (Nat.le_of_ble_eq_true rfl)⟩ (Nat.le_of_ble_eq_true rfl) (Nat.le_of_ble_eq_true rfl) hQ
  rw [if_neg c_14] at h
  exact bw_thr (dd := 0) (rr := r) (k5 := 1) (text := "no such loan") (rest := []) S hl.1 hZ hfl hno hlocks (by decide) h (fun q : Int32 => (bw_xW cy b d t sl hn hs cs ln rp rn rt)) (fun q : Int32 => some (.int q)) hI (by decide +kernel) c_X5_170 x_1 (by decide) at_1 dX5_loan_17 dX5_loan_20 dX5_loan_21 dX5_loan_23 dX5_loan_26 (Nat.le_of_ble_eq_true rfl) (Nat.le_of_ble_eq_true rfl) ⟨(Nat.le_of_ble_eq_true rfl), (Nat.le_of_ble_eq_true rfl)⟩ (Nat.le_of_ble_eq_true rfl) (Nat.le_of_ble_eq_true rfl) hQ
set_option maxHeartbeats 4000000 in
set_option maxRecDepth 100000 in
theorem mX5_owed (l : Launch) (hfl : l.stackTraces = false) (G : va_G) (cy : Nat → ClassId) (g : Nat) (b : Nat → Nat → Nat) (d : bw_A2) (t : bw_A2) (sl : bw_A3) (hn : Int32) (hs : Int32) (cs : bw_A1) (ln : Int32) (rp : Int32) (rn : Int32) (rt : Int32) (p1 : Int32) (p2 : Int32) (ec : Nat) (r : Int32) (h : fX5_owed d p1 p2 = some (ec, r)) : bw_MX l yX5_owed cX5_owed 3 (some .int) 7 103 3 G cy g [.ref (b 8 5), .int p1, .int p2] (bw_xW cy b d t sl hn hs cs ln rp rn rt) ec (some (.int r)) (bw_xW cy b d t sl hn hs cs ln rp rn rt) := by
  refine bw_ofWX (by decide +kernel) RX5 rfl (Nat.le_of_ble_eq_true rfl) ?_
  intro p e s m below meth c ls S hr hlocks hno hK hZ hI hl
  have hx := S.1
  have hb := S.2.1
  have hown := S.2.2.2.1
  have hts := S.2.2.2.2
  generalize va_A _ s.heap.size = A at hI hZ ⊢
  generalize hQ : vx_MQ below _ _ _ s 3 (6 * 3) A = Q
  have hl : lv_has ls 3 [(0, .ref (b 8 5)), (1, .int p1), (2, .int p2)] := hl
  unfold fX5_owed at h
  refine lv_aload_n hx hb dX5_owed_0 rfl (lv_at hl 0 rfl) ?_
  refine lv_iload_n hx hb dX5_owed_1 rfl (lv_at hl 1 rfl) ?_
  obtain ⟨k2, hc, h⟩ := bw_b1_e h
  refine bw_callVX S hK hZ hI (mX5_needProject l hfl G cy g b d t sl hn hs cs ln rp rn rt p1 k2 hc) Y_X5_needProject V_X5_needProject l_X5_61 ⟨(Nat.le_of_ble_eq_true rfl), (Nat.le_of_ble_eq_true rfl)⟩ (q0 := 0) rfl rfl rfl (ws' := (bw_xW cy b d t sl hn hs cs ln rp rn rt)) (bw_pS _) (bw_pS' _) rfl rfl hl.1 (rest := []) (st1 := []) rfl rfl (Nat.le_of_ble_eq_true rfl) dX5_owed_2 ⟨(Nat.le_of_ble_eq_true rfl), (Nat.le_of_ble_eq_true rfl)⟩ (fun h0 q ce H locs hI h1 h2 h3 => ?_) (fun h0 H locs hI => ?_)
  · have h := bw_thn_f h h0
    exact bw_outX (dd := 0) (rr := r) hno hlocks h0 h (fun q : Int32 => (bw_xW cy b d t sl hn hs cs ln rp rn rt)) (fun q : Int32 => some (.int q)) hI h1 h2 h3 (Nat.le_of_ble_eq_true rfl) (Nat.le_of_ble_eq_true rfl) hQ
  have h := bw_thn_t h h0
  refine lv_aload_n hx hb dX5_owed_5 rfl (lv_at hl 0 rfl) ?_
  refine lv_iload_n hx hb dX5_owed_6 rfl (lv_at hl 2 rfl) ?_
  obtain ⟨k7, hc, h⟩ := bw_b1_e h
  refine bw_callVX S hK hZ hI (mX5_needProject l hfl G cy g b d t sl hn hs cs ln rp rn rt p2 k7 hc) Y_X5_needProject V_X5_needProject l_X5_61 ⟨(Nat.le_of_ble_eq_true rfl), (Nat.le_of_ble_eq_true rfl)⟩ (q0 := 0) rfl rfl rfl (ws' := (bw_xW cy b d t sl hn hs cs ln rp rn rt)) (bw_pS _) (bw_pS' _) rfl rfl hl.1 (rest := []) (st1 := []) rfl rfl (Nat.le_of_ble_eq_true rfl) dX5_owed_7 ⟨(Nat.le_of_ble_eq_true rfl), (Nat.le_of_ble_eq_true rfl)⟩ (fun h0 q ce H locs hI h1 h2 h3 => ?_) (fun h0 H locs hI => ?_)
  · have h := bw_thn_f h h0
    exact bw_outX (dd := 0) (rr := r) hno hlocks h0 h (fun q : Int32 => (bw_xW cy b d t sl hn hs cs ln rp rn rt)) (fun q : Int32 => some (.int q)) hI h1 h2 h3 (Nat.le_of_ble_eq_true rfl) (Nat.le_of_ble_eq_true rfl) hQ
  have h := bw_thn_t h h0
  refine lv_aload_n hx hb dX5_owed_10 rfl (lv_at hl 0 rfl) ?_
  refine bw_get S hK hI 0 0 rfl rfl (by decide) i_X5 f_X5_12 rfl dX5_owed_11 ?_
  refine lv_iload_n hx hb dX5_owed_14 rfl (lv_at hl 1 rfl) ?_
  refine lv_iload_n hx hb dX5_owed_15 rfl (lv_at hl 2 rfl) ?_
  obtain ⟨r16, hc, h⟩ := bw_b1_e h
  refine bw_callV S hK hZ hI (mX0_daysOwed l G cy g (b 0) (d 0) (d 1) (d 2) (d 3) (d 4) (d 5 0) (d 5 1) p1 p2 r16 hc) Y_X0_daysOwed V_X0_daysOwed l_X5_115 ⟨(Nat.le_of_ble_eq_true rfl), (Nat.le_of_ble_eq_true rfl)⟩ (q0 := 0) rfl rfl rfl (ws' := (bw_xW cy b d t sl hn hs cs ln rp rn rt)) (bw_px_d cy b d t sl hn hs cs ln rp rn rt) (bw_px_d cy b d t sl hn hs cs ln rp rn rt).symm rfl rfl hl.1 (rest := []) (st1 := [.int r16]) rfl rfl (Nat.le_of_ble_eq_true rfl) dX5_owed_16 ⟨(Nat.le_of_ble_eq_true rfl), (Nat.le_of_ble_eq_true rfl)⟩ (fun H locs hI => ?_)
  exact bw_iretX (dd := r16) (rr := r) S hr hlocks h (fun q : Int32 => (bw_xW cy b d t sl hn hs cs ln rp rn rt)) (fun q : Int32 => some (.int q)) rfl hI rfl (Nat.le_of_ble_eq_true rfl) (Nat.le_of_ble_eq_true rfl) dX5_owed_19 hQ
set_option maxHeartbeats 4000000 in
set_option maxRecDepth 100000 in
theorem mX5_lender (l : Launch) (hfl : l.stackTraces = false) (G : va_G) (cy : Nat → ClassId) (g : Nat) (b : Nat → Nat → Nat) (d : bw_A2) (t : bw_A2) (sl : bw_A3) (hn : Int32) (hs : Int32) (cs : bw_A1) (ln : Int32) (rp : Int32) (rn : Int32) (rt : Int32) (p1 : Int32) (p2 : Int32) (ec : Nat) (r : Int32) (d' : bw_A2) (h : fX5_lender d p1 p2 = some (ec, r, d')) : bw_MX l yX5_lender cX5_lender 3 (some .int) 7 103 2 G cy g [.ref (b 8 5), .int p1, .int p2] (bw_xW cy b d t sl hn hs cs ln rp rn rt) ec (some (.int r)) (bw_xW cy b d' t sl hn hs cs ln rp rn rt) := by
  refine bw_ofWX (by decide +kernel) RX5 rfl (Nat.le_of_ble_eq_true rfl) ?_
  intro p e s m below meth c ls S hr hlocks hno hK hZ hI hl
  have hx := S.1
  have hb := S.2.1
  have hown := S.2.2.2.1
  have hts := S.2.2.2.2
  generalize va_A _ s.heap.size = A at hI hZ ⊢
  generalize hQ : vx_MQ below _ _ _ s 2 (6 * 2) A = Q
  have hl : lv_has ls 3 [(0, .ref (b 8 5)), (1, .int p1), (2, .int p2)] := hl
  unfold fX5_lender at h
  refine lv_aload_n hx hb dX5_lender_0 rfl (lv_at hl 0 rfl) ?_
  refine lv_iload_n hx hb dX5_lender_1 rfl (lv_at hl 1 rfl) ?_
  obtain ⟨k2, hc, h⟩ := bw_b1_e h
  refine bw_callVX S hK hZ hI (mX5_needProject l hfl G cy g b d t sl hn hs cs ln rp rn rt p1 k2 hc) Y_X5_needProject V_X5_needProject l_X5_61 ⟨(Nat.le_of_ble_eq_true rfl), (Nat.le_of_ble_eq_true rfl)⟩ (q0 := 0) rfl rfl rfl (ws' := (bw_xW cy b d t sl hn hs cs ln rp rn rt)) (bw_pS _) (bw_pS' _) rfl rfl hl.1 (rest := []) (st1 := []) rfl rfl (Nat.le_of_ble_eq_true rfl) dX5_lender_2 ⟨(Nat.le_of_ble_eq_true rfl), (Nat.le_of_ble_eq_true rfl)⟩ (fun h0 q ce H locs hI h1 h2 h3 => ?_) (fun h0 H locs hI => ?_)
  · have h := bw_thn_f h h0
    exact bw_outX (dd := (0, d)) (rr := (r, d')) hno hlocks h0 h (fun q : (Int32 × bw_A2) => (bw_xW cy b q.2 t sl hn hs cs ln rp rn rt)) (fun q : (Int32 × bw_A2) => some (.int q.1)) hI h1 h2 h3 (Nat.le_of_ble_eq_true rfl) (Nat.le_of_ble_eq_true rfl) hQ
  have h := bw_thn_t h h0
  refine lv_iload_n hx hb dX5_lender_5 rfl (lv_at hl 2 rfl) ?_
  refine lv_iconst (v := 0) hx hb dX5_lender_6 rfl ?_
  refine lv_iconst (v := 4) hx hb dX5_lender_7 rfl ?_
  obtain ⟨r8, hc, h⟩ := bw_b1_e h
  refine bw_callP S hK hZ hI (mX5_isOutside l G cy g p2 0 4 r8 hc) Y_X5_isOutside V_X5_isOutside l_X5_33 ⟨(Nat.le_of_ble_eq_true rfl), (Nat.le_of_ble_eq_true rfl)⟩ (rest := []) (st1 := [.int r8]) rfl hl.1 rfl rfl (Nat.le_of_ble_eq_true rfl) dX5_lender_8 ⟨(Nat.le_of_ble_eq_true rfl), (Nat.le_of_ble_eq_true rfl)⟩ (fun H locs hI => ?_)
  refine lv_if_eq (tgt := 24) hx hb dX5_lender_11 (by decide) (fun c_11 => ?_) (fun c_11 => ?_)
  · rw [if_pos c_11] at h
    refine lv_aload_n hx hb dX5_lender_24 rfl (lv_at hl 0 rfl) ?_
    refine bw_get S hK hI 0 0 rfl rfl (by decide) i_X5 f_X5_12 rfl dX5_lender_25 ?_
    refine lv_iload_n hx hb dX5_lender_28 rfl (lv_at hl 1 rfl) ?_
    refine lv_iload_n hx hb dX5_lender_29 rfl (lv_at hl 2 rfl) ?_
    obtain ⟨r30, tq_30, hc, h⟩ := bw_b2_e h
    obtain ⟨d_30, e_30⟩ : ∃ z, z = (va_up d 4 tq_30) := ⟨_, rfl⟩
    have h := bw_let_e h e_30
    refine bw_callV S hK hZ hI (mX0_lenderAt l G cy g (b 0) (d 0) (d 1) (d 2) (d 3) (d 4) (d 5 0) (d 5 1) p1 p2 r30 tq_30 hc) Y_X0_lenderAt V_X0_lenderAt l_X5_191 ⟨(Nat.le_of_ble_eq_true rfl), (Nat.le_of_ble_eq_true rfl)⟩ (q0 := 0) rfl rfl rfl (ws' := (bw_xW cy b d_30 t sl hn hs cs ln rp rn rt)) (bw_px_d cy b d t sl hn hs cs ln rp rn rt) (by rw [e_30]; exact (bw_px_d cy b (va_up d 4 tq_30) t sl hn hs cs ln rp rn rt).symm) rfl rfl hl.1 (rest := []) (st1 := [.int r30]) rfl rfl (Nat.le_of_ble_eq_true rfl) dX5_lender_30 ⟨(Nat.le_of_ble_eq_true rfl), (Nat.le_of_ble_eq_true rfl)⟩ (fun H locs hI => ?_)
    clear e_30
    exact bw_iretX (dd := (r30, d_30)) (rr := (r, d')) S hr hlocks h (fun q : (Int32 × bw_A2) => (bw_xW cy b q.2 t sl hn hs cs ln rp rn rt)) (fun q : (Int32 × bw_A2) => some (.int q.1)) rfl hI rfl (Nat.le_of_ble_eq_true rfl) (Nat.le_of_ble_eq_true rfl) dX5_lender_33 hQ
  rw [if_neg c_11] at h
  exact bw_thr (dd := (0, d)) (rr := (r, d')) (k5 := 2) (text := "no such place") (rest := []) S hl.1 hZ hfl hno hlocks (by decide) h (fun q : (Int32 × bw_A2) => (bw_xW cy b q.2 t sl hn hs cs ln rp rn rt)) (fun q : (Int32 × bw_A2) => some (.int q.1)) hI (by decide +kernel) c_X5_37 x_2 (by decide) at_2 dX5_lender_14 dX5_lender_17 dX5_lender_18 dX5_lender_20 dX5_lender_23 (Nat.le_of_ble_eq_true rfl) (Nat.le_of_ble_eq_true rfl) ⟨(Nat.le_of_ble_eq_true rfl), (Nat.le_of_ble_eq_true rfl)⟩ (Nat.le_of_ble_eq_true rfl) (Nat.le_of_ble_eq_true rfl) hQ
set_option maxHeartbeats 4000000 in
set_option maxRecDepth 100000 in
theorem mX5_numberOf (l : Launch) (G : va_G) (cy : Nat → ClassId) (g : Nat) (b : Nat → Nat → Nat) (d : bw_A2) (t : bw_A2) (sl : bw_A3) (hn : Int32) (hs : Int32) (cs : bw_A1) (ln : Int32) (rp : Int32) (rn : Int32) (rt : Int32) (p1 : Int32) (r : Int32) (h : fX5_numberOf d hs p1 = some r) : bw_M l yX5_numberOf cX5_numberOf 2 (some .int) 2 47 G cy g [.ref (b 8 5), .int p1] (bw_xW cy b d t sl hn hs cs ln rp rn rt) (some (.int r)) (bw_xW cy b d t sl hn hs cs ln rp rn rt) := by
  refine bw_ofW (by decide +kernel) RX5 rfl (Nat.le_of_ble_eq_true rfl) ?_
  intro p e s m below meth c ls S hr hlocks hK hZ hI hl
  have hx := S.1
  have hb := S.2.1
  have hown := S.2.2.2.1
  have hts := S.2.2.2.2
  generalize va_A _ s.heap.size = A at hI hZ ⊢
  generalize hQ : MQ below _ _ s 0 0 A = Q
  have hl : lv_has ls 2 [(0, .ref (b 8 5)), (1, .int p1)] := hl
  unfold fX5_numberOf at h
  refine lv_iload_n hx hb dX5_numberOf_0 rfl (lv_at hl 1 rfl) ?_
  by_cases c_1_0 : p1 = 0
  · rw [if_pos c_1_0] at h
    refine lv_tableIn (tgt := 52) hx hb dX5_numberOf_1 (by rw [c_1_0]; decide) (by rw [c_1_0]; decide) (by rw [c_1_0]; rfl) (by decide) ?_
    refine lv_aload_n hx hb dX5_numberOf_52 rfl (lv_at hl 0 rfl) ?_
    refine bw_get S hK hI 0 0 rfl rfl (by decide) i_X5 f_X5_12 rfl dX5_numberOf_53 ?_
    obtain ⟨r56, hc, h⟩ := bw_b1_e h
    refine bw_callV S hK hZ hI (mX0_projects l G cy g (b 0) (d 0) (d 1) (d 2) (d 3) (d 4) (d 5 0) (d 5 1) r56 hc) Y_X0_projects V_X0_projects l_X5_44 ⟨(Nat.le_of_ble_eq_true rfl), (Nat.le_of_ble_eq_true rfl)⟩ (q0 := 0) rfl rfl rfl (ws' := (bw_xW cy b d t sl hn hs cs ln rp rn rt)) (bw_px_d cy b d t sl hn hs cs ln rp rn rt) (bw_px_d cy b d t sl hn hs cs ln rp rn rt).symm rfl rfl hl.1 (rest := []) (st1 := [.int r56]) rfl rfl (Nat.le_of_ble_eq_true rfl) dX5_numberOf_56 ⟨(Nat.le_of_ble_eq_true rfl), (Nat.le_of_ble_eq_true rfl)⟩ (fun H locs hI => ?_)
    exact bw_iretP S hr hlocks h hI rfl dX5_numberOf_59 hQ
  rw [if_neg c_1_0] at h
  by_cases c_1_1 : p1 = 1
  · rw [if_pos c_1_1] at h
    refine lv_tableIn (tgt := 60) hx hb dX5_numberOf_1 (by rw [c_1_1]; decide) (by rw [c_1_1]; decide) (by rw [c_1_1]; rfl) (by decide) ?_
    refine lv_aload_n hx hb dX5_numberOf_60 rfl (lv_at hl 0 rfl) ?_
    refine bw_get S hK hI 0 0 rfl rfl (by decide) i_X5 f_X5_12 rfl dX5_numberOf_61 ?_
    refine lv_bipush (v := 9) hx hb dX5_numberOf_64 (by decide) ?_
    obtain ⟨r66, hc, h⟩ := bw_b1_e h
    refine bw_callV S hK hZ hI (mX0_sumOfProjects l G cy g (b 0) (d 0) (d 1) (d 2) (d 3) (d 4) (d 5 0) (d 5 1) 9 r66 hc) Y_X0_sumOfProjects V_X0_sumOfProjects l_X5_223 ⟨(Nat.le_of_ble_eq_true rfl), (Nat.le_of_ble_eq_true rfl)⟩ (q0 := 0) rfl rfl rfl (ws' := (bw_xW cy b d t sl hn hs cs ln rp rn rt)) (bw_px_d cy b d t sl hn hs cs ln rp rn rt) (bw_px_d cy b d t sl hn hs cs ln rp rn rt).symm rfl rfl hl.1 (rest := []) (st1 := [.int r66]) rfl rfl (Nat.le_of_ble_eq_true rfl) dX5_numberOf_66 ⟨(Nat.le_of_ble_eq_true rfl), (Nat.le_of_ble_eq_true rfl)⟩ (fun H locs hI => ?_)
    exact bw_iretP S hr hlocks h hI rfl dX5_numberOf_69 hQ
  rw [if_neg c_1_1] at h
  by_cases c_1_2 : p1 = 2
  · rw [if_pos c_1_2] at h
    refine lv_tableIn (tgt := 70) hx hb dX5_numberOf_1 (by rw [c_1_2]; decide) (by rw [c_1_2]; decide) (by rw [c_1_2]; rfl) (by decide) ?_
    refine lv_aload_n hx hb dX5_numberOf_70 rfl (lv_at hl 0 rfl) ?_
    refine bw_get S hK hI 0 0 rfl rfl (by decide) i_X5 f_X5_12 rfl dX5_numberOf_71 ?_
    obtain ⟨r74, hc, h⟩ := bw_b1_e h
    refine bw_callV S hK hZ hI (mX0_loans l G cy g (b 0) (d 0) (d 1) (d 2) (d 3) (d 4) (d 5 0) (d 5 1) r74 hc) Y_X0_loans V_X0_loans l_X5_179 ⟨(Nat.le_of_ble_eq_true rfl), (Nat.le_of_ble_eq_true rfl)⟩ (q0 := 0) rfl rfl rfl (ws' := (bw_xW cy b d t sl hn hs cs ln rp rn rt)) (bw_px_d cy b d t sl hn hs cs ln rp rn rt) (bw_px_d cy b d t sl hn hs cs ln rp rn rt).symm rfl rfl hl.1 (rest := []) (st1 := [.int r74]) rfl rfl (Nat.le_of_ble_eq_true rfl) dX5_numberOf_74 ⟨(Nat.le_of_ble_eq_true rfl), (Nat.le_of_ble_eq_true rfl)⟩ (fun H locs hI => ?_)
    exact bw_iretP S hr hlocks h hI rfl dX5_numberOf_77 hQ
  rw [if_neg c_1_2] at h
  by_cases c_1_3 : p1 = 3
  · rw [if_pos c_1_3] at h
    refine lv_tableIn (tgt := 78) hx hb dX5_numberOf_1 (by rw [c_1_3]; decide) (by rw [c_1_3]; decide) (by rw [c_1_3]; rfl) (by decide) ?_
    refine lv_aload_n hx hb dX5_numberOf_78 rfl (lv_at hl 0 rfl) ?_
    refine bw_get S hK hI 0 0 rfl rfl (by decide) i_X5 f_X5_12 rfl dX5_numberOf_79 ?_
    refine lv_iconst (v := 4) hx hb dX5_numberOf_82 rfl ?_
    obtain ⟨r83, hc, h⟩ := bw_b1_e h
    refine bw_callV S hK hZ hI (mX0_sumOfProjects l G cy g (b 0) (d 0) (d 1) (d 2) (d 3) (d 4) (d 5 0) (d 5 1) 4 r83 hc) Y_X0_sumOfProjects V_X0_sumOfProjects l_X5_223 ⟨(Nat.le_of_ble_eq_true rfl), (Nat.le_of_ble_eq_true rfl)⟩ (q0 := 0) rfl rfl rfl (ws' := (bw_xW cy b d t sl hn hs cs ln rp rn rt)) (bw_px_d cy b d t sl hn hs cs ln rp rn rt) (bw_px_d cy b d t sl hn hs cs ln rp rn rt).symm rfl rfl hl.1 (rest := []) (st1 := [.int r83]) rfl rfl (Nat.le_of_ble_eq_true rfl) dX5_numberOf_83 ⟨(Nat.le_of_ble_eq_true rfl), (Nat.le_of_ble_eq_true rfl)⟩ (fun H locs hI => ?_)
    exact bw_iretP S hr hlocks h hI rfl dX5_numberOf_86 hQ
  rw [if_neg c_1_3] at h
  by_cases c_1_4 : p1 = 4
  · rw [if_pos c_1_4] at h
    refine lv_tableIn (tgt := 87) hx hb dX5_numberOf_1 (by rw [c_1_4]; decide) (by rw [c_1_4]; decide) (by rw [c_1_4]; rfl) (by decide) ?_
    refine lv_aload_n hx hb dX5_numberOf_87 rfl (lv_at hl 0 rfl) ?_
    refine bw_get S hK hI 0 0 rfl rfl (by decide) i_X5 f_X5_12 rfl dX5_numberOf_88 ?_
    refine lv_iconst (v := 2) hx hb dX5_numberOf_91 rfl ?_
    obtain ⟨r92, hc, h⟩ := bw_b1_e h
    refine bw_callV S hK hZ hI (mX0_sumOfProjects l G cy g (b 0) (d 0) (d 1) (d 2) (d 3) (d 4) (d 5 0) (d 5 1) 2 r92 hc) Y_X0_sumOfProjects V_X0_sumOfProjects l_X5_223 ⟨(Nat.le_of_ble_eq_true rfl), (Nat.le_of_ble_eq_true rfl)⟩ (q0 := 0) rfl rfl rfl (ws' := (bw_xW cy b d t sl hn hs cs ln rp rn rt)) (bw_px_d cy b d t sl hn hs cs ln rp rn rt) (bw_px_d cy b d t sl hn hs cs ln rp rn rt).symm rfl rfl hl.1 (rest := []) (st1 := [.int r92]) rfl rfl (Nat.le_of_ble_eq_true rfl) dX5_numberOf_92 ⟨(Nat.le_of_ble_eq_true rfl), (Nat.le_of_ble_eq_true rfl)⟩ (fun H locs hI => ?_)
    exact bw_iretP S hr hlocks h hI rfl dX5_numberOf_95 hQ
  rw [if_neg c_1_4] at h
  by_cases c_1_5 : p1 = 5
  · rw [if_pos c_1_5] at h
    refine lv_tableIn (tgt := 96) hx hb dX5_numberOf_1 (by rw [c_1_5]; decide) (by rw [c_1_5]; decide) (by rw [c_1_5]; rfl) (by decide) ?_
    refine lv_aload_n hx hb dX5_numberOf_96 rfl (lv_at hl 0 rfl) ?_
    refine bw_get S hK hI 0 0 rfl rfl (by decide) i_X5 f_X5_12 rfl dX5_numberOf_97 ?_
    refine lv_bipush (v := 6) hx hb dX5_numberOf_100 (by decide) ?_
    obtain ⟨r102, hc, h⟩ := bw_b1_e h
    refine bw_callV S hK hZ hI (mX0_sumOfProjects l G cy g (b 0) (d 0) (d 1) (d 2) (d 3) (d 4) (d 5 0) (d 5 1) 6 r102 hc) Y_X0_sumOfProjects V_X0_sumOfProjects l_X5_223 ⟨(Nat.le_of_ble_eq_true rfl), (Nat.le_of_ble_eq_true rfl)⟩ (q0 := 0) rfl rfl rfl (ws' := (bw_xW cy b d t sl hn hs cs ln rp rn rt)) (bw_px_d cy b d t sl hn hs cs ln rp rn rt) (bw_px_d cy b d t sl hn hs cs ln rp rn rt).symm rfl rfl hl.1 (rest := []) (st1 := [.int r102]) rfl rfl (Nat.le_of_ble_eq_true rfl) dX5_numberOf_102 ⟨(Nat.le_of_ble_eq_true rfl), (Nat.le_of_ble_eq_true rfl)⟩ (fun H locs hI => ?_)
    exact bw_iretP S hr hlocks h hI rfl dX5_numberOf_105 hQ
  rw [if_neg c_1_5] at h
  by_cases c_1_6 : p1 = 6
  · rw [if_pos c_1_6] at h
    refine lv_tableIn (tgt := 106) hx hb dX5_numberOf_1 (by rw [c_1_6]; decide) (by rw [c_1_6]; decide) (by rw [c_1_6]; rfl) (by decide) ?_
    refine lv_aload_n hx hb dX5_numberOf_106 rfl (lv_at hl 0 rfl) ?_
    refine bw_get S hK hI 0 0 rfl rfl (by decide) i_X5 f_X5_12 rfl dX5_numberOf_107 ?_
    refine lv_bipush (v := 8) hx hb dX5_numberOf_110 (by decide) ?_
    obtain ⟨r112, hc, h⟩ := bw_b1_e h
    refine bw_callV S hK hZ hI (mX0_sumOfProjects l G cy g (b 0) (d 0) (d 1) (d 2) (d 3) (d 4) (d 5 0) (d 5 1) 8 r112 hc) Y_X0_sumOfProjects V_X0_sumOfProjects l_X5_223 ⟨(Nat.le_of_ble_eq_true rfl), (Nat.le_of_ble_eq_true rfl)⟩ (q0 := 0) rfl rfl rfl (ws' := (bw_xW cy b d t sl hn hs cs ln rp rn rt)) (bw_px_d cy b d t sl hn hs cs ln rp rn rt) (bw_px_d cy b d t sl hn hs cs ln rp rn rt).symm rfl rfl hl.1 (rest := []) (st1 := [.int r112]) rfl rfl (Nat.le_of_ble_eq_true rfl) dX5_numberOf_112 ⟨(Nat.le_of_ble_eq_true rfl), (Nat.le_of_ble_eq_true rfl)⟩ (fun H locs hI => ?_)
    exact bw_iretP S hr hlocks h hI rfl dX5_numberOf_115 hQ
  rw [if_neg c_1_6] at h
  by_cases c_1_7 : p1 = 7
  · rw [if_pos c_1_7] at h
    refine lv_tableIn (tgt := 116) hx hb dX5_numberOf_1 (by rw [c_1_7]; decide) (by rw [c_1_7]; decide) (by rw [c_1_7]; rfl) (by decide) ?_
    refine lv_aload_n hx hb dX5_numberOf_116 rfl (lv_at hl 0 rfl) ?_
    refine bw_get S hK hI 0 0 rfl rfl (by decide) i_X5 f_X5_12 rfl dX5_numberOf_117 ?_
    obtain ⟨r120, hc, h⟩ := bw_b1_e h
    refine bw_callV S hK hZ hI (mX0_delayOfTasks l G cy g (b 0) (d 0) (d 1) (d 2) (d 3) (d 4) (d 5 0) (d 5 1) r120 hc) Y_X0_delayOfTasks V_X0_delayOfTasks l_X5_220 ⟨(Nat.le_of_ble_eq_true rfl), (Nat.le_of_ble_eq_true rfl)⟩ (q0 := 0) rfl rfl rfl (ws' := (bw_xW cy b d t sl hn hs cs ln rp rn rt)) (bw_px_d cy b d t sl hn hs cs ln rp rn rt) (bw_px_d cy b d t sl hn hs cs ln rp rn rt).symm rfl rfl hl.1 (rest := []) (st1 := [.int r120]) rfl rfl (Nat.le_of_ble_eq_true rfl) dX5_numberOf_120 ⟨(Nat.le_of_ble_eq_true rfl), (Nat.le_of_ble_eq_true rfl)⟩ (fun H locs hI => ?_)
    exact bw_iretP S hr hlocks h hI rfl dX5_numberOf_123 hQ
  rw [if_neg c_1_7] at h
  by_cases c_1_8 : p1 = 8
  · rw [if_pos c_1_8] at h
    refine lv_tableIn (tgt := 124) hx hb dX5_numberOf_1 (by rw [c_1_8]; decide) (by rw [c_1_8]; decide) (by rw [c_1_8]; rfl) (by decide) ?_
    refine lv_aload_n hx hb dX5_numberOf_124 rfl (lv_at hl 0 rfl) ?_
    refine bw_get S hK hI 0 0 rfl rfl (by decide) i_X5 f_X5_12 rfl dX5_numberOf_125 ?_
    refine lv_bipush (v := 10) hx hb dX5_numberOf_128 (by decide) ?_
    obtain ⟨r130, hc, h⟩ := bw_b1_e h
    refine bw_callV S hK hZ hI (mX0_sumOfProjects l G cy g (b 0) (d 0) (d 1) (d 2) (d 3) (d 4) (d 5 0) (d 5 1) 10 r130 hc) Y_X0_sumOfProjects V_X0_sumOfProjects l_X5_223 ⟨(Nat.le_of_ble_eq_true rfl), (Nat.le_of_ble_eq_true rfl)⟩ (q0 := 0) rfl rfl rfl (ws' := (bw_xW cy b d t sl hn hs cs ln rp rn rt)) (bw_px_d cy b d t sl hn hs cs ln rp rn rt) (bw_px_d cy b d t sl hn hs cs ln rp rn rt).symm rfl rfl hl.1 (rest := []) (st1 := [.int r130]) rfl rfl (Nat.le_of_ble_eq_true rfl) dX5_numberOf_130 ⟨(Nat.le_of_ble_eq_true rfl), (Nat.le_of_ble_eq_true rfl)⟩ (fun H locs hI => ?_)
    exact bw_iretP S hr hlocks h hI rfl dX5_numberOf_133 hQ
  rw [if_neg c_1_8] at h
  have t_0 := bw_nei c_1_0
  have t_1 := bw_nei c_1_1
  have t_2 := bw_nei c_1_2
  have t_3 := bw_nei c_1_3
  have t_4 := bw_nei c_1_4
  have t_5 := bw_nei c_1_5
  have t_6 := bw_nei c_1_6
  have t_7 := bw_nei c_1_7
  have t_8 := bw_nei c_1_8
  refine lv_tableOut (tgt := 134) hx hb dX5_numberOf_1 (bw_out9 t_0 t_1 t_2 t_3 t_4 t_5 t_6 t_7 t_8) (by decide) ?_
  refine lv_aload_n hx hb dX5_numberOf_134 rfl (lv_at hl 0 rfl) ?_
  refine bw_get S hK hI 0 2 rfl rfl (by decide) i_X5 f_X5_22 rfl dX5_numberOf_135 ?_
  obtain ⟨r138, hc, h⟩ := bw_b1_e h
  refine bw_callV S hK hZ hI (mX1_size l G cy g b d sl hn hs r138 hc) Y_X1_size V_X1_size l_X5_160 ⟨(Nat.le_of_ble_eq_true rfl), (Nat.le_of_ble_eq_true rfl)⟩ (q0 := 0) rfl rfl rfl (ws' := (bw_xW cy b d t sl hn hs cs ln rp rn rt)) (bw_px_h cy b d t sl hn hs cs ln rp rn rt) (bw_px_h cy b d t sl hn hs cs ln rp rn rt).symm rfl rfl hl.1 (rest := []) (st1 := [.int r138]) rfl rfl (Nat.le_of_ble_eq_true rfl) dX5_numberOf_138 ⟨(Nat.le_of_ble_eq_true rfl), (Nat.le_of_ble_eq_true rfl)⟩ (fun H locs hI => ?_)
  exact bw_iretP S hr hlocks h hI rfl dX5_numberOf_141 hQ
set_option maxHeartbeats 4000000 in
set_option maxRecDepth 100000 in
theorem mX5_count (l : Launch) (hfl : l.stackTraces = false) (G : va_G) (cy : Nat → ClassId) (g : Nat) (b : Nat → Nat → Nat) (d : bw_A2) (t : bw_A2) (sl : bw_A3) (hn : Int32) (hs : Int32) (cs : bw_A1) (ln : Int32) (rp : Int32) (rn : Int32) (rt : Int32) (p1 : Int32) (ec : Nat) (r : Int32) (h : fX5_count d hs p1 = some (ec, r)) : bw_MX l yX5_count cX5_count 2 (some .int) 6 82 1 G cy g [.ref (b 8 5), .int p1] (bw_xW cy b d t sl hn hs cs ln rp rn rt) ec (some (.int r)) (bw_xW cy b d t sl hn hs cs ln rp rn rt) := by
  refine bw_ofWX (by decide +kernel) RX5 rfl (Nat.le_of_ble_eq_true rfl) ?_
  intro p e s m below meth c ls S hr hlocks hno hK hZ hI hl
  have hx := S.1
  have hb := S.2.1
  have hown := S.2.2.2.1
  have hts := S.2.2.2.2
  generalize va_A _ s.heap.size = A at hI hZ ⊢
  generalize hQ : vx_MQ below _ _ _ s 1 (6 * 1) A = Q
  have hl : lv_has ls 2 [(0, .ref (b 8 5)), (1, .int p1)] := hl
  unfold fX5_count at h
  refine lv_iload_n hx hb dX5_count_0 rfl (lv_at hl 1 rfl) ?_
  refine lv_iconst (v := 0) hx hb dX5_count_1 rfl ?_
  refine lv_bipush (v := 9) hx hb dX5_count_2 (by decide) ?_
  obtain ⟨r4, hc, h⟩ := bw_b1_e h
  refine bw_callP S hK hZ hI (mX5_isOutside l G cy g p1 0 9 r4 hc) Y_X5_isOutside V_X5_isOutside l_X5_33 ⟨(Nat.le_of_ble_eq_true rfl), (Nat.le_of_ble_eq_true rfl)⟩ (rest := []) (st1 := [.int r4]) rfl hl.1 rfl rfl (Nat.le_of_ble_eq_true rfl) dX5_count_4 ⟨(Nat.le_of_ble_eq_true rfl), (Nat.le_of_ble_eq_true rfl)⟩ (fun H locs hI => ?_)
  refine lv_if_eq (tgt := 20) hx hb dX5_count_7 (by decide) (fun c_7 => ?_) (fun c_7 => ?_)
  · rw [if_pos c_7] at h
    refine lv_aload_n hx hb dX5_count_20 rfl (lv_at hl 0 rfl) ?_
    refine lv_iload_n hx hb dX5_count_21 rfl (lv_at hl 1 rfl) ?_
    obtain ⟨r22, hc, h⟩ := bw_b1_e h
    refine bw_callV S hK hZ hI (mX5_numberOf l G cy g b d t sl hn hs cs ln rp rn rt p1 r22 hc) Y_X5_numberOf V_X5_numberOf l_X5_196 ⟨(Nat.le_of_ble_eq_true rfl), (Nat.le_of_ble_eq_true rfl)⟩ (q0 := 0) rfl rfl rfl (ws' := (bw_xW cy b d t sl hn hs cs ln rp rn rt)) (bw_pS _) (bw_pS' _) rfl rfl hl.1 (rest := []) (st1 := [.int r22]) rfl rfl (Nat.le_of_ble_eq_true rfl) dX5_count_22 ⟨(Nat.le_of_ble_eq_true rfl), (Nat.le_of_ble_eq_true rfl)⟩ (fun H locs hI => ?_)
    exact bw_iretX (dd := r22) (rr := r) S hr hlocks h (fun q : Int32 => (bw_xW cy b d t sl hn hs cs ln rp rn rt)) (fun q : Int32 => some (.int q)) rfl hI rfl (Nat.le_of_ble_eq_true rfl) (Nat.le_of_ble_eq_true rfl) dX5_count_25 hQ
  rw [if_neg c_7] at h
  exact bw_thr (dd := 0) (rr := r) (k5 := 2) (text := "no such number") (rest := []) S hl.1 hZ hfl hno hlocks (by decide) h (fun q : Int32 => (bw_xW cy b d t sl hn hs cs ln rp rn rt)) (fun q : Int32 => some (.int q)) hI (by decide +kernel) c_X5_37 x_2 (by decide) at_2 dX5_count_10 dX5_count_13 dX5_count_14 dX5_count_16 dX5_count_19 (Nat.le_of_ble_eq_true rfl) (Nat.le_of_ble_eq_true rfl) ⟨(Nat.le_of_ble_eq_true rfl), (Nat.le_of_ble_eq_true rfl)⟩ (Nat.le_of_ble_eq_true rfl) (Nat.le_of_ble_eq_true rfl) hQ
set_option maxHeartbeats 4000000 in
set_option maxRecDepth 100000 in
theorem mX5_setting (l : Launch) (hfl : l.stackTraces = false) (G : va_G) (cy : Nat → ClassId) (g : Nat) (b : Nat → Nat → Nat) (d : bw_A2) (t : bw_A2) (sl : bw_A3) (hn : Int32) (hs : Int32) (cs : bw_A1) (ln : Int32) (rp : Int32) (rn : Int32) (rt : Int32) (p1 : Int32) (ec : Nat) (r : Int32) (h : fX5_setting d p1 = some (ec, r)) : bw_MX l yX5_setting cX5_setting 2 (some .int) 7 102 2 G cy g [.ref (b 8 5), .int p1] (bw_xW cy b d t sl hn hs cs ln rp rn rt) ec (some (.int r)) (bw_xW cy b d t sl hn hs cs ln rp rn rt) := by
  refine bw_ofWX (by decide +kernel) RX5 rfl (Nat.le_of_ble_eq_true rfl) ?_
  intro p e s m below meth c ls S hr hlocks hno hK hZ hI hl
  have hx := S.1
  have hb := S.2.1
  have hown := S.2.2.2.1
  have hts := S.2.2.2.2
  generalize va_A _ s.heap.size = A at hI hZ ⊢
  generalize hQ : vx_MQ below _ _ _ s 2 (6 * 2) A = Q
  have hl : lv_has ls 2 [(0, .ref (b 8 5)), (1, .int p1)] := hl
  unfold fX5_setting at h
  refine lv_iload_n hx hb dX5_setting_0 rfl (lv_at hl 1 rfl) ?_
  obtain ⟨k1, hc, h⟩ := bw_b1_e h
  refine bw_callPX S hK hZ hI (mX5_needSetting l hfl G cy g p1 k1 hc) Y_X5_needSetting V_X5_needSetting l_X5_84 ⟨(Nat.le_of_ble_eq_true rfl), (Nat.le_of_ble_eq_true rfl)⟩ (rest := []) (st1 := []) rfl hl.1 rfl rfl (Nat.le_of_ble_eq_true rfl) dX5_setting_1 ⟨(Nat.le_of_ble_eq_true rfl), (Nat.le_of_ble_eq_true rfl)⟩ (fun h0 q ce H locs hI h1 h2 h3 => ?_) (fun h0 H locs hI => ?_)
  · have h := bw_thn_f h h0
    exact bw_outX (dd := 0) (rr := r) hno hlocks h0 h (fun q : Int32 => (bw_xW cy b d t sl hn hs cs ln rp rn rt)) (fun q : Int32 => some (.int q)) hI h1 h2 h3 (Nat.le_of_ble_eq_true rfl) (Nat.le_of_ble_eq_true rfl) hQ
  have h := bw_thn_t h h0
  refine lv_aload_n hx hb dX5_setting_4 rfl (lv_at hl 0 rfl) ?_
  refine bw_get S hK hI 0 0 rfl rfl (by decide) i_X5 f_X5_12 rfl dX5_setting_5 ?_
  refine lv_iload_n hx hb dX5_setting_8 rfl (lv_at hl 1 rfl) ?_
  obtain ⟨r9, hc, h⟩ := bw_b1_e h
  refine bw_callV S hK hZ hI (mX0_valueOf l G cy g (b 0) (d 0) (d 1) (d 2) (d 3) (d 4) (d 5 0) (d 5 1) p1 r9 hc) Y_X0_valueOf V_X0_valueOf l_X5_199 ⟨(Nat.le_of_ble_eq_true rfl), (Nat.le_of_ble_eq_true rfl)⟩ (q0 := 0) rfl rfl rfl (ws' := (bw_xW cy b d t sl hn hs cs ln rp rn rt)) (bw_px_d cy b d t sl hn hs cs ln rp rn rt) (bw_px_d cy b d t sl hn hs cs ln rp rn rt).symm rfl rfl hl.1 (rest := []) (st1 := [.int r9]) rfl rfl (Nat.le_of_ble_eq_true rfl) dX5_setting_9 ⟨(Nat.le_of_ble_eq_true rfl), (Nat.le_of_ble_eq_true rfl)⟩ (fun H locs hI => ?_)
  exact bw_iretX (dd := r9) (rr := r) S hr hlocks h (fun q : Int32 => (bw_xW cy b d t sl hn hs cs ln rp rn rt)) (fun q : Int32 => some (.int q)) rfl hI rfl (Nat.le_of_ble_eq_true rfl) (Nat.le_of_ble_eq_true rfl) dX5_setting_12 hQ
set_option maxHeartbeats 4000000 in
set_option maxRecDepth 100000 in
theorem mX5_tryNextTask (l : Launch) (G : va_G) (cy : Nat → ClassId) (g : Nat) (b : Nat → Nat → Nat) (d : bw_A2) (t : bw_A2) (sl : bw_A3) (hn : Int32) (hs : Int32) (cs : bw_A1) (ln : Int32) (rp : Int32) (rn : Int32) (rt : Int32) (p1 : Int32) (p2 : Int32) (r : Int32) (t' : bw_A2) (h : fX5_tryNextTask d t p1 p2 = some (r, t')) : bw_M l yX5_tryNextTask cX5_tryNextTask 3 (some .boolean) 5 129 G cy g [.ref (b 8 5), .int p1, .int p2] (bw_xW cy b d t sl hn hs cs ln rp rn rt) (some (.int r)) (bw_xW cy b d t' sl hn hs cs ln rp rn rt) := by
  refine bw_ofW (by decide +kernel) RX5 rfl (Nat.le_of_ble_eq_true rfl) ?_
  intro p e s m below meth c ls S hr hlocks hK hZ hI hl
  have hx := S.1
  have hb := S.2.1
  have hown := S.2.2.2.1
  have hts := S.2.2.2.2
  generalize va_A _ s.heap.size = A at hI hZ ⊢
  generalize hQ : MQ below _ _ s 0 0 A = Q
  have hl : lv_has ls 3 [(0, .ref (b 8 5)), (1, .int p1), (2, .int p2)] := hl
  unfold fX5_tryNextTask at h
  refine lv_aload_n hx hb dX5_tryNextTask_0 rfl (lv_at hl 0 rfl) ?_
  refine bw_get S hK hI 0 0 rfl rfl (by decide) i_X5 f_X5_12 rfl dX5_tryNextTask_1 ?_
  refine lv_iload_n hx hb dX5_tryNextTask_4 rfl (lv_at hl 1 rfl) ?_
  obtain ⟨r5, hc, h⟩ := bw_b1_e h
  refine bw_callV S hK hZ hI (mX0_hasNextTask l G cy g (b 0) (d 0) (d 1) (d 2) (d 3) (d 4) (d 5 0) (d 5 1) p1 r5 hc) Y_X0_hasNextTask V_X0_hasNextTask l_X5_99 ⟨(Nat.le_of_ble_eq_true rfl), (Nat.le_of_ble_eq_true rfl)⟩ (q0 := 0) rfl rfl rfl (ws' := (bw_xW cy b d t sl hn hs cs ln rp rn rt)) (bw_px_d cy b d t sl hn hs cs ln rp rn rt) (bw_px_d cy b d t sl hn hs cs ln rp rn rt).symm rfl rfl hl.1 (rest := []) (st1 := [.int r5]) rfl rfl (Nat.le_of_ble_eq_true rfl) dX5_tryNextTask_5 ⟨(Nat.le_of_ble_eq_true rfl), (Nat.le_of_ble_eq_true rfl)⟩ (fun H locs hI => ?_)
  refine lv_if_ne (tgt := 13) hx hb dX5_tryNextTask_8 (by decide) (fun c_8 => ?_) (fun c_8 => ?_)
  · rw [if_neg c_8] at h
    refine lv_aload_n hx hb dX5_tryNextTask_13 rfl (lv_at hl 0 rfl) ?_
    refine bw_get S hK hI 0 1 rfl rfl (by decide) i_X5 f_X5_16 rfl dX5_tryNextTask_14 ?_
    refine lv_aload_n hx hb dX5_tryNextTask_17 rfl (lv_at hl 0 rfl) ?_
    refine bw_get S hK hI 0 0 rfl rfl (by decide) i_X5 f_X5_12 rfl dX5_tryNextTask_18 ?_
    obtain ⟨t_21, e_21⟩ : ∃ z, z = bw_cpD t d := ⟨_, rfl⟩
    have h := bw_let_e h e_21
    refine bw_callV S hK hZ hI (mX0_copyFromD l G cy g (b 1) (b 0) t d) Y_X0_copyFrom V_X0_copyFrom l_X5_263 ⟨(Nat.le_of_ble_eq_true rfl), (Nat.le_of_ble_eq_true rfl)⟩ (q0 := 0) rfl rfl rfl (ws' := (bw_xW cy b d t_21 sl hn hs cs ln rp rn rt)) (bw_px_td cy b d t sl hn hs cs ln rp rn rt) (by rw [e_21]; exact (bw_px_td cy b d (bw_cpD t d) sl hn hs cs ln rp rn rt).symm) rfl rfl hl.1 (rest := []) (st1 := []) rfl rfl (Nat.le_of_ble_eq_true rfl) dX5_tryNextTask_21 ⟨(Nat.le_of_ble_eq_true rfl), (Nat.le_of_ble_eq_true rfl)⟩ (fun H locs hI => ?_)
    clear e_21
    refine lv_aload_n hx hb dX5_tryNextTask_24 rfl (lv_at hl 0 rfl) ?_
    refine bw_get S hK hI 0 1 rfl rfl (by decide) i_X5 f_X5_16 rfl dX5_tryNextTask_25 ?_
    refine lv_iload_n hx hb dX5_tryNextTask_28 rfl (lv_at hl 1 rfl) ?_
    refine lv_iload_n hx hb dX5_tryNextTask_29 rfl (lv_at hl 2 rfl) ?_
    obtain ⟨r30, tp_30, tk_30, tl_30, tq_30, nl_30, hc, h⟩ := bw_b6_e h
    obtain ⟨t_30, e_30⟩ : ∃ z, z = (va_up (va_up (va_up (va_up (va_up t_21 0 tp_30) 1 tk_30) 2 tl_30) 4 tq_30) 5 (upd (t_21 5) 1 nl_30)) := ⟨_, rfl⟩
    have h := bw_let_e h e_30
    refine bw_callV S hK hZ hI (mX0_doNextTask l G cy g (b 1) (t_21 0) (t_21 1) (t_21 2) (t_21 3) (t_21 4) (t_21 5 0) (t_21 5 1) p1 p2 r30 tp_30 tk_30 tl_30 tq_30 nl_30 hc) Y_X0_doNextTask V_X0_doNextTask l_X5_104 ⟨(Nat.le_of_ble_eq_true rfl), (Nat.le_of_ble_eq_true rfl)⟩ (q0 := 0) rfl rfl rfl (ws' := (bw_xW cy b d t_30 sl hn hs cs ln rp rn rt)) (bw_px_t cy b d t_21 sl hn hs cs ln rp rn rt) (by rw [e_30]; exact (bw_px_t cy b d (va_up (va_up (va_up (va_up (va_up t_21 0 tp_30) 1 tk_30) 2 tl_30) 4 tq_30) 5 (upd (t_21 5) 1 nl_30)) sl hn hs cs ln rp rn rt).symm) rfl rfl hl.1 (rest := []) (st1 := [.int r30]) rfl rfl (Nat.le_of_ble_eq_true rfl) dX5_tryNextTask_30 ⟨(Nat.le_of_ble_eq_true rfl), (Nat.le_of_ble_eq_true rfl)⟩ (fun H locs hI => ?_)
    clear e_30
    refine lv_pop hx hb dX5_tryNextTask_33 rfl ?_
    refine lv_iconst (v := 1) hx hb dX5_tryNextTask_34 rfl ?_
    exact bw_iret (d := t_30) (rr := (r, t')) S hr hlocks h (fun q : bw_A2 => (bw_xW cy b d q sl hn hs cs ln rp rn rt)) hI rfl dX5_tryNextTask_35 hQ
  rw [if_pos c_8] at h
  refine lv_iconst (v := 0) hx hb dX5_tryNextTask_11 rfl ?_
  exact bw_iret (d := t) (rr := (r, t')) S hr hlocks h (fun q : bw_A2 => (bw_xW cy b d q sl hn hs cs ln rp rn rt)) hI rfl dX5_tryNextTask_12 hQ
set_option maxHeartbeats 4000000 in
set_option maxRecDepth 100000 in
theorem mX5_ifDone (l : Launch) (hfl : l.stackTraces = false) (G : va_G) (cy : Nat → ClassId) (g : Nat) (b : Nat → Nat → Nat) (d : bw_A2) (t : bw_A2) (sl : bw_A3) (hn : Int32) (hs : Int32) (cs : bw_A1) (ln : Int32) (rp : Int32) (rn : Int32) (rt : Int32) (p1 : Int32) (p2 : Int32) (p3 : Int32) (ec : Nat) (r : Int32) (t' : bw_A2) (h : fX5_ifDone d t p1 p2 p3 = some (ec, r, t')) : bw_MX l yX5_ifDone cX5_ifDone 4 (some .int) 7 151 3 G cy g [.ref (b 8 5), .int p1, .int p2, .int p3] (bw_xW cy b d t sl hn hs cs ln rp rn rt) ec (some (.int r)) (bw_xW cy b d t' sl hn hs cs ln rp rn rt) := by
  refine bw_ofWX (by decide +kernel) RX5 rfl (Nat.le_of_ble_eq_true rfl) ?_
  intro p e s m below meth c ls S hr hlocks hno hK hZ hI hl
  have hx := S.1
  have hb := S.2.1
  have hown := S.2.2.2.1
  have hts := S.2.2.2.2
  generalize va_A _ s.heap.size = A at hI hZ ⊢
  generalize hQ : vx_MQ below _ _ _ s 3 (6 * 3) A = Q
  have hl : lv_has ls 4 [(0, .ref (b 8 5)), (1, .int p1), (2, .int p2), (3, .int p3)] := hl
  unfold fX5_ifDone at h
  refine lv_aload_n hx hb dX5_ifDone_0 rfl (lv_at hl 0 rfl) ?_
  refine lv_iload_n hx hb dX5_ifDone_1 rfl (lv_at hl 1 rfl) ?_
  obtain ⟨k2, hc, h⟩ := bw_b1_e h
  refine bw_callVX S hK hZ hI (mX5_needProject l hfl G cy g b d t sl hn hs cs ln rp rn rt p1 k2 hc) Y_X5_needProject V_X5_needProject l_X5_61 ⟨(Nat.le_of_ble_eq_true rfl), (Nat.le_of_ble_eq_true rfl)⟩ (q0 := 0) rfl rfl rfl (ws' := (bw_xW cy b d t sl hn hs cs ln rp rn rt)) (bw_pS _) (bw_pS' _) rfl rfl hl.1 (rest := []) (st1 := []) rfl rfl (Nat.le_of_ble_eq_true rfl) dX5_ifDone_2 ⟨(Nat.le_of_ble_eq_true rfl), (Nat.le_of_ble_eq_true rfl)⟩ (fun h0 q ce H locs hI h1 h2 h3 => ?_) (fun h0 H locs hI => ?_)
  · have h := bw_thn_f h h0
    exact bw_outX (dd := (0, t)) (rr := (r, t')) hno hlocks h0 h (fun q : (Int32 × bw_A2) => (bw_xW cy b d q.2 sl hn hs cs ln rp rn rt)) (fun q : (Int32 × bw_A2) => some (.int q.1)) hI h1 h2 h3 (Nat.le_of_ble_eq_true rfl) (Nat.le_of_ble_eq_true rfl) hQ
  have h := bw_thn_t h h0
  refine lv_iload_n hx hb dX5_ifDone_5 rfl (lv_at hl 2 rfl) ?_
  obtain ⟨k6, hc, h⟩ := bw_b1_e h
  refine bw_callPX S hK hZ hI (mX5_needDaysTaken l hfl G cy g p2 k6 hc) Y_X5_needDaysTaken V_X5_needDaysTaken l_X5_96 ⟨(Nat.le_of_ble_eq_true rfl), (Nat.le_of_ble_eq_true rfl)⟩ (rest := []) (st1 := []) rfl hl.1 rfl rfl (Nat.le_of_ble_eq_true rfl) dX5_ifDone_6 ⟨(Nat.le_of_ble_eq_true rfl), (Nat.le_of_ble_eq_true rfl)⟩ (fun h0 q ce H locs hI h1 h2 h3 => ?_) (fun h0 H locs hI => ?_)
  · have h := bw_thn_f h h0
    exact bw_outX (dd := (0, t)) (rr := (r, t')) hno hlocks h0 h (fun q : (Int32 × bw_A2) => (bw_xW cy b d q.2 sl hn hs cs ln rp rn rt)) (fun q : (Int32 × bw_A2) => some (.int q.1)) hI h1 h2 h3 (Nat.le_of_ble_eq_true rfl) (Nat.le_of_ble_eq_true rfl) hQ
  have h := bw_thn_t h h0
  refine lv_iload_n hx hb dX5_ifDone_9 rfl (lv_at hl 3 rfl) ?_
  refine lv_iconst (v := 0) hx hb dX5_ifDone_10 rfl ?_
  refine lv_iconst (v := 4) hx hb dX5_ifDone_11 rfl ?_
  obtain ⟨r12, hc, h⟩ := bw_b1_e h
  refine bw_callP S hK hZ hI (mX5_isOutside l G cy g p3 0 4 r12 hc) Y_X5_isOutside V_X5_isOutside l_X5_33 ⟨(Nat.le_of_ble_eq_true rfl), (Nat.le_of_ble_eq_true rfl)⟩ (rest := []) (st1 := [.int r12]) rfl hl.1 rfl rfl (Nat.le_of_ble_eq_true rfl) dX5_ifDone_12 ⟨(Nat.le_of_ble_eq_true rfl), (Nat.le_of_ble_eq_true rfl)⟩ (fun H locs hI => ?_)
  refine lv_if_eq (tgt := 28) hx hb dX5_ifDone_15 (by decide) (fun c_15 => ?_) (fun c_15 => ?_)
  · rw [if_pos c_15] at h
    refine lv_aload_n hx hb dX5_ifDone_28 rfl (lv_at hl 0 rfl) ?_
    refine lv_iload_n hx hb dX5_ifDone_29 rfl (lv_at hl 1 rfl) ?_
    refine lv_iload_n hx hb dX5_ifDone_30 rfl (lv_at hl 2 rfl) ?_
    obtain ⟨r31, t_31, hc, h⟩ := bw_b2_e h
    refine bw_callV S hK hZ hI (mX5_tryNextTask l G cy g b d t sl hn hs cs ln rp rn rt p1 p2 r31 t_31 hc) Y_X5_tryNextTask V_X5_tryNextTask l_X5_204 ⟨(Nat.le_of_ble_eq_true rfl), (Nat.le_of_ble_eq_true rfl)⟩ (q0 := 0) rfl rfl rfl (ws' := (bw_xW cy b d t_31 sl hn hs cs ln rp rn rt)) (bw_pS _) (bw_pS' _) rfl rfl hl.1 (rest := []) (st1 := [.int r31]) rfl rfl (Nat.le_of_ble_eq_true rfl) dX5_ifDone_31 ⟨(Nat.le_of_ble_eq_true rfl), (Nat.le_of_ble_eq_true rfl)⟩ (fun H locs hI => ?_)
    refine lv_if_eq (tgt := 46) hx hb dX5_ifDone_34 (by decide) (fun c_34 => ?_) (fun c_34 => ?_)
    · rw [if_pos c_34] at h
      refine lv_iconst (v := (-1)) hx hb dX5_ifDone_46 rfl ?_
      exact bw_iretX (dd := ((-1), t_31)) (rr := (r, t')) S hr hlocks h (fun q : (Int32 × bw_A2) => (bw_xW cy b d q.2 sl hn hs cs ln rp rn rt)) (fun q : (Int32 × bw_A2) => some (.int q.1)) rfl hI rfl (Nat.le_of_ble_eq_true rfl) (Nat.le_of_ble_eq_true rfl) dX5_ifDone_47 hQ
    rw [if_neg c_34] at h
    refine lv_aload_n hx hb dX5_ifDone_37 rfl (lv_at hl 0 rfl) ?_
    refine lv_iload_n hx hb dX5_ifDone_38 rfl (lv_at hl 1 rfl) ?_
    refine lv_iload_n hx hb dX5_ifDone_39 rfl (lv_at hl 3 rfl) ?_
    obtain ⟨r40, hc, h⟩ := bw_b1_e h
    refine bw_callV S hK hZ hI (mX5_resultOfTrial l G cy g b d t_31 sl hn hs cs ln rp rn rt p1 p3 r40 hc) Y_X5_resultOfTrial V_X5_resultOfTrial l_X5_208 ⟨(Nat.le_of_ble_eq_true rfl), (Nat.le_of_ble_eq_true rfl)⟩ (q0 := 0) rfl rfl rfl (ws' := (bw_xW cy b d t_31 sl hn hs cs ln rp rn rt)) (bw_pS _) (bw_pS' _) rfl rfl hl.1 (rest := []) (st1 := [.int r40]) rfl rfl (Nat.le_of_ble_eq_true rfl) dX5_ifDone_40 ⟨(Nat.le_of_ble_eq_true rfl), (Nat.le_of_ble_eq_true rfl)⟩ (fun H locs hI => ?_)
    refine lv_goto (tgt := 47) hx hb dX5_ifDone_43 (by decide) ?_
    exact bw_iretX (dd := (r40, t_31)) (rr := (r, t')) S hr hlocks h (fun q : (Int32 × bw_A2) => (bw_xW cy b d q.2 sl hn hs cs ln rp rn rt)) (fun q : (Int32 × bw_A2) => some (.int q.1)) rfl hI rfl (Nat.le_of_ble_eq_true rfl) (Nat.le_of_ble_eq_true rfl) dX5_ifDone_47 hQ
  rw [if_neg c_15] at h
  exact bw_thr (dd := (0, t)) (rr := (r, t')) (k5 := 2) (text := "no such result") (rest := []) S hl.1 hZ hfl hno hlocks (by decide) h (fun q : (Int32 × bw_A2) => (bw_xW cy b d q.2 sl hn hs cs ln rp rn rt)) (fun q : (Int32 × bw_A2) => some (.int q.1)) hI (by decide +kernel) c_X5_37 x_2 (by decide) at_2 dX5_ifDone_18 dX5_ifDone_21 dX5_ifDone_22 dX5_ifDone_24 dX5_ifDone_27 (Nat.le_of_ble_eq_true rfl) (Nat.le_of_ble_eq_true rfl) ⟨(Nat.le_of_ble_eq_true rfl), (Nat.le_of_ble_eq_true rfl)⟩ (Nat.le_of_ble_eq_true rfl) (Nat.le_of_ble_eq_true rfl) hQ
set_option maxHeartbeats 4000000 in
set_option maxRecDepth 100000 in
theorem mX5_bears (l : Launch) (hfl : l.stackTraces = false) (G : va_G) (cy : Nat → ClassId) (g : Nat) (b : Nat → Nat → Nat) (d : bw_A2) (t : bw_A2) (sl : bw_A3) (hn : Int32) (hs : Int32) (cs : bw_A1) (ln : Int32) (rp : Int32) (rn : Int32) (rt : Int32) (p1 : Int32) (ec : Nat) (r : Int32) (h : fX5_bears d p1 = some (ec, r)) : bw_MX l yX5_bears cX5_bears 2 (some .int) 7 103 2 G cy g [.ref (b 8 5), .int p1] (bw_xW cy b d t sl hn hs cs ln rp rn rt) ec (some (.int r)) (bw_xW cy b d t sl hn hs cs ln rp rn rt) := by
  refine bw_ofWX (by decide +kernel) RX5 rfl (Nat.le_of_ble_eq_true rfl) ?_
  intro p e s m below meth c ls S hr hlocks hno hK hZ hI hl
  have hx := S.1
  have hb := S.2.1
  have hown := S.2.2.2.1
  have hts := S.2.2.2.2
  generalize va_A _ s.heap.size = A at hI hZ ⊢
  generalize hQ : vx_MQ below _ _ _ s 2 (6 * 2) A = Q
  have hl : lv_has ls 2 [(0, .ref (b 8 5)), (1, .int p1)] := hl
  unfold fX5_bears at h
  refine lv_aload_n hx hb dX5_bears_0 rfl (lv_at hl 0 rfl) ?_
  refine lv_iload_n hx hb dX5_bears_1 rfl (lv_at hl 1 rfl) ?_
  obtain ⟨k2, hc, h⟩ := bw_b1_e h
  refine bw_callVX S hK hZ hI (mX5_needProject l hfl G cy g b d t sl hn hs cs ln rp rn rt p1 k2 hc) Y_X5_needProject V_X5_needProject l_X5_61 ⟨(Nat.le_of_ble_eq_true rfl), (Nat.le_of_ble_eq_true rfl)⟩ (q0 := 0) rfl rfl rfl (ws' := (bw_xW cy b d t sl hn hs cs ln rp rn rt)) (bw_pS _) (bw_pS' _) rfl rfl hl.1 (rest := []) (st1 := []) rfl rfl (Nat.le_of_ble_eq_true rfl) dX5_bears_2 ⟨(Nat.le_of_ble_eq_true rfl), (Nat.le_of_ble_eq_true rfl)⟩ (fun h0 q ce H locs hI h1 h2 h3 => ?_) (fun h0 H locs hI => ?_)
  · have h := bw_thn_f h h0
    exact bw_outX (dd := 0) (rr := r) hno hlocks h0 h (fun q : Int32 => (bw_xW cy b d t sl hn hs cs ln rp rn rt)) (fun q : Int32 => some (.int q)) hI h1 h2 h3 (Nat.le_of_ble_eq_true rfl) (Nat.le_of_ble_eq_true rfl) hQ
  have h := bw_thn_t h h0
  refine lv_aload_n hx hb dX5_bears_5 rfl (lv_at hl 0 rfl) ?_
  refine bw_get S hK hI 0 0 rfl rfl (by decide) i_X5 f_X5_12 rfl dX5_bears_6 ?_
  refine lv_iload_n hx hb dX5_bears_9 rfl (lv_at hl 1 rfl) ?_
  obtain ⟨r10, hc, h⟩ := bw_b1_e h
  refine bw_callV S hK hZ hI (mX0_bearableDelay l G cy g (b 0) (d 0) (d 1) (d 2) (d 3) (d 4) (d 5 0) (d 5 1) p1 r10 hc) Y_X0_bearableDelay V_X0_bearableDelay l_X5_211 ⟨(Nat.le_of_ble_eq_true rfl), (Nat.le_of_ble_eq_true rfl)⟩ (q0 := 0) rfl rfl rfl (ws' := (bw_xW cy b d t sl hn hs cs ln rp rn rt)) (bw_px_d cy b d t sl hn hs cs ln rp rn rt) (bw_px_d cy b d t sl hn hs cs ln rp rn rt).symm rfl rfl hl.1 (rest := []) (st1 := [.int r10]) rfl rfl (Nat.le_of_ble_eq_true rfl) dX5_bears_10 ⟨(Nat.le_of_ble_eq_true rfl), (Nat.le_of_ble_eq_true rfl)⟩ (fun H locs hI => ?_)
  exact bw_iretX (dd := r10) (rr := r) S hr hlocks h (fun q : Int32 => (bw_xW cy b d t sl hn hs cs ln rp rn rt)) (fun q : Int32 => some (.int q)) rfl hI rfl (Nat.le_of_ble_eq_true rfl) (Nat.le_of_ble_eq_true rfl) dX5_bears_13 hQ
set_option maxHeartbeats 4000000 in
set_option maxRecDepth 100000 in
theorem mX5_bestRuleFor (l : Launch) (G : va_G) (cy : Nat → ClassId) (g : Nat) (b : Nat → Nat → Nat) (d : bw_A2) (t : bw_A2) (sl : bw_A3) (hn : Int32) (hs : Int32) (cs : bw_A1) (ln : Int32) (rp : Int32) (rn : Int32) (rt : Int32) (p1 : Int32) (p2 : Int32) (r : Int32) (t' : bw_A2) (h : fX5_bestRuleFor d t p1 p2 = some (r, t')) : bw_M l yX5_bestRuleFor cX5_bestRuleFor 7 (some .int) 5 129 G cy g [.ref (b 8 5), .int p1, .int p2] (bw_xW cy b d t sl hn hs cs ln rp rn rt) (some (.int r)) (bw_xW cy b d t' sl hn hs cs ln rp rn rt) := by
  refine bw_ofW (by decide +kernel) RX5 rfl (Nat.le_of_ble_eq_true rfl) ?_
  intro p e s m below meth c ls S hr hlocks hK hZ hI hl
  have hx := S.1
  have hb := S.2.1
  have hown := S.2.2.2.1
  have hts := S.2.2.2.2
  generalize va_A _ s.heap.size = A at hI hZ ⊢
  generalize hQ : MQ below _ _ s 0 0 A = Q
  have hl : lv_has ls 7 [(0, .ref (b 8 5)), (1, .int p1), (2, .int p2)] := hl
  have j85 : ∀ (t : bw_A2) (x1 : Int32) (x2 : Int32) (x3 : Int32) (x4 : Int32) (x5 : Int32) (k21 : bw_A2 → Int32 → Int32 → Int32 → Option (Int32 × bw_A2)) (hk21 : ∀ (H : Heap) (locs : List Loc) (ls : Array Slot) (t_ : bw_A2) (x3_ : Int32) (x4_ : Int32) (x5_ : Int32), k21 t_ x3_ x4_ x5_ = some (r, t') → bw_I G A s.heap (bw_xW cy b d t_ sl hn hs cs ln rp rn rt) H locs → lv_has ls 7 [(0, .ref (b 8 5)), (1, .int x1), (2, .int x2), (3, .int x3_), (4, .int x4_), (5, .int x5_)] → W p l e (bw_rm 5 129) s m [.ref (b 8 5), .int p1, .int p2].toArray below meth c H locs 0 0 Q (F0 m 21 ls [])) (H : Heap) (locs : List Loc) (ls : Array Slot), jX5_bestRuleFor_85 k21 d t x1 x2 x3 x4 x5 = some (r, t') → bw_I G A s.heap (bw_xW cy b d t sl hn hs cs ln rp rn rt) H locs → lv_has ls 7 [(0, .ref (b 8 5)), (1, .int x1), (2, .int x2), (3, .int x3), (4, .int x4), (5, .int x5)] → W p l e (bw_rm 5 129) s m [.ref (b 8 5), .int p1, .int p2].toArray below meth c H locs 0 0 Q (F0 m 85 ls []) := by
    intro t x1 x2 x3 x4 x5 k21 hk21 H locs ls h hI hl
    unfold jX5_bestRuleFor_85 at h
    obtain ⟨x5_85, e_85⟩ : ∃ y : Int32, y = x5 + 1 := ⟨_, rfl⟩
    have h := bw_let_e h e_85
    refine lv_iinc (v := x5_85) (lv' := [(5, .int x5_85), (0, .ref (b 8 5)), (1, .int x1), (2, .int x2), (3, .int x3), (4, .int x4)]) hx hb dX5_bestRuleFor_85 hl (k := 5) rfl (by rw [e_85]; rfl) (by decide) rfl (fun ls hl => ?_)
    clear e_85
    refine lv_goto (tgt := 21) hx hb dX5_bestRuleFor_88 (by decide) ?_
    exact hk21 _ _ _ t x3 x4 x5_85 h hI (lv_sub hl [1,2,3,4,5,0] rfl)
  have l21 : ∀ (x1 : Int32) (x2 : Int32) (n : Nat) (H : Heap) (locs : List Loc) (ls : Array Slot) (t : bw_A2) (x3 : Int32) (x4 : Int32) (x5 : Int32), lX5_bestRuleFor_21 d x1 x2 n t x3 x4 x5 = some (r, t') → bw_I G A s.heap (bw_xW cy b d t sl hn hs cs ln rp rn rt) H locs → lv_has ls 7 [(0, .ref (b 8 5)), (1, .int x1), (2, .int x2), (3, .int x3), (4, .int x4), (5, .int x5)] → W p l e (bw_rm 5 129) s m [.ref (b 8 5), .int p1, .int p2].toArray below meth c H locs 0 0 Q (F0 m 21 ls []) := by
    intro x1 x2 n
    induction n with
    | zero => intro H locs ls t x3 x4 x5 h; exact bw_none h
    | succ n ih =>
      intro H locs ls t x3 x4 x5 h hI hl
      have h : bX5_bestRuleFor_21  (lX5_bestRuleFor_21 d x1 x2 n) d x1 x2 t x3 x4 x5 = some (r, t') := h
      unfold bX5_bestRuleFor_21 at h
      refine lv_iload hx hb dX5_bestRuleFor_21 (lv_at hl 5 rfl) ?_
      refine lv_iconst (v := 0) hx hb dX5_bestRuleFor_23 rfl ?_
      obtain ⟨r24, hc, h⟩ := bw_b1_e h
      refine bw_callP S hK hZ hI (mX5_greatestValue l G cy g 0 r24 hc) Y_X5_greatestValue V_X5_greatestValue l_X5_87 ⟨(Nat.le_of_ble_eq_true rfl), (Nat.le_of_ble_eq_true rfl)⟩ (rest := [.int x5]) (st1 := [.int r24, .int x5]) rfl hl.1 rfl rfl (Nat.le_of_ble_eq_true rfl) dX5_bestRuleFor_24 ⟨(Nat.le_of_ble_eq_true rfl), (Nat.le_of_ble_eq_true rfl)⟩ (fun H locs hI => ?_)
      refine lv_icmp_gt (tgt := 91) hx hb dX5_bestRuleFor_27 (by decide) (fun c_27 => ?_) (fun c_27 => ?_)
      · rw [if_pos c_27] at h
        refine lv_iload_n hx hb dX5_bestRuleFor_91 rfl (lv_at hl 3 rfl) ?_
        exact bw_iret (d := t) (rr := (r, t')) S hr hlocks h (fun q : bw_A2 => (bw_xW cy b d q sl hn hs cs ln rp rn rt)) hI rfl dX5_bestRuleFor_92 hQ
      rw [if_neg c_27] at h
      refine lv_aload_n hx hb dX5_bestRuleFor_30 rfl (lv_at hl 0 rfl) ?_
      refine bw_get S hK hI 0 1 rfl rfl (by decide) i_X5 f_X5_16 rfl dX5_bestRuleFor_31 ?_
      refine lv_aload_n hx hb dX5_bestRuleFor_34 rfl (lv_at hl 0 rfl) ?_
      refine bw_get S hK hI 0 0 rfl rfl (by decide) i_X5 f_X5_12 rfl dX5_bestRuleFor_35 ?_
      obtain ⟨t_38, e_38⟩ : ∃ z, z = bw_cpD t d := ⟨_, rfl⟩
      have h := bw_let_e h e_38
      refine bw_callV S hK hZ hI (mX0_copyFromD l G cy g (b 1) (b 0) t d) Y_X0_copyFrom V_X0_copyFrom l_X5_263 ⟨(Nat.le_of_ble_eq_true rfl), (Nat.le_of_ble_eq_true rfl)⟩ (q0 := 0) rfl rfl rfl (ws' := (bw_xW cy b d t_38 sl hn hs cs ln rp rn rt)) (bw_px_td cy b d t sl hn hs cs ln rp rn rt) (by rw [e_38]; exact (bw_px_td cy b d (bw_cpD t d) sl hn hs cs ln rp rn rt).symm) rfl rfl hl.1 (rest := []) (st1 := []) rfl rfl (Nat.le_of_ble_eq_true rfl) dX5_bestRuleFor_38 ⟨(Nat.le_of_ble_eq_true rfl), (Nat.le_of_ble_eq_true rfl)⟩ (fun H locs hI => ?_)
      clear e_38
      refine lv_aload_n hx hb dX5_bestRuleFor_41 rfl (lv_at hl 0 rfl) ?_
      refine bw_get S hK hI 0 1 rfl rfl (by decide) i_X5 f_X5_16 rfl dX5_bestRuleFor_42 ?_
      refine lv_iconst (v := 0) hx hb dX5_bestRuleFor_45 rfl ?_
      refine lv_iload hx hb dX5_bestRuleFor_46 (lv_at hl 5 rfl) ?_
      obtain ⟨r48, ts_48, hc, h⟩ := bw_b2_e h
      obtain ⟨t_48, e_48⟩ : ∃ z, z = (va_up t_38 3 ts_48) := ⟨_, rfl⟩
      have h := bw_let_e h e_48
      refine bw_callV S hK hZ hI (mX0_changeSetting l G cy g (b 1) (t_38 0) (t_38 1) (t_38 2) (t_38 3) (t_38 4) (t_38 5 0) (t_38 5 1) 0 x5 r48 ts_48 hc) Y_X0_changeSetting V_X0_changeSetting l_X5_93 ⟨(Nat.le_of_ble_eq_true rfl), (Nat.le_of_ble_eq_true rfl)⟩ (q0 := 0) rfl rfl rfl (ws' := (bw_xW cy b d t_48 sl hn hs cs ln rp rn rt)) (bw_px_t cy b d t_38 sl hn hs cs ln rp rn rt) (by rw [e_48]; exact (bw_px_t cy b d (va_up t_38 3 ts_48) sl hn hs cs ln rp rn rt).symm) rfl rfl hl.1 (rest := []) (st1 := [.int r48]) rfl rfl (Nat.le_of_ble_eq_true rfl) dX5_bestRuleFor_48 ⟨(Nat.le_of_ble_eq_true rfl), (Nat.le_of_ble_eq_true rfl)⟩ (fun H locs hI => ?_)
      clear e_48
      refine lv_pop hx hb dX5_bestRuleFor_51 rfl ?_
      refine lv_aload_n hx hb dX5_bestRuleFor_52 rfl (lv_at hl 0 rfl) ?_
      refine bw_get S hK hI 0 1 rfl rfl (by decide) i_X5 f_X5_16 rfl dX5_bestRuleFor_53 ?_
      refine lv_iload_n hx hb dX5_bestRuleFor_56 rfl (lv_at hl 1 rfl) ?_
      refine lv_iload_n hx hb dX5_bestRuleFor_57 rfl (lv_at hl 2 rfl) ?_
      obtain ⟨r58, tp_58, tk_58, tl_58, tq_58, nl_58, hc, h⟩ := bw_b6_e h
      obtain ⟨t_58, e_58⟩ : ∃ z, z = (va_up (va_up (va_up (va_up (va_up t_48 0 tp_58) 1 tk_58) 2 tl_58) 4 tq_58) 5 (upd (t_48 5) 1 nl_58)) := ⟨_, rfl⟩
      have h := bw_let_e h e_58
      refine bw_callV S hK hZ hI (mX0_doNextTask l G cy g (b 1) (t_48 0) (t_48 1) (t_48 2) (t_48 3) (t_48 4) (t_48 5 0) (t_48 5 1) x1 x2 r58 tp_58 tk_58 tl_58 tq_58 nl_58 hc) Y_X0_doNextTask V_X0_doNextTask l_X5_104 ⟨(Nat.le_of_ble_eq_true rfl), (Nat.le_of_ble_eq_true rfl)⟩ (q0 := 0) rfl rfl rfl (ws' := (bw_xW cy b d t_58 sl hn hs cs ln rp rn rt)) (bw_px_t cy b d t_48 sl hn hs cs ln rp rn rt) (by rw [e_58]; exact (bw_px_t cy b d (va_up (va_up (va_up (va_up (va_up t_48 0 tp_58) 1 tk_58) 2 tl_58) 4 tq_58) 5 (upd (t_48 5) 1 nl_58)) sl hn hs cs ln rp rn rt).symm) rfl rfl hl.1 (rest := []) (st1 := [.int r58]) rfl rfl (Nat.le_of_ble_eq_true rfl) dX5_bestRuleFor_58 ⟨(Nat.le_of_ble_eq_true rfl), (Nat.le_of_ble_eq_true rfl)⟩ (fun H locs hI => ?_)
      clear e_58
      refine lv_pop hx hb dX5_bestRuleFor_61 rfl ?_
      refine lv_aload_n hx hb dX5_bestRuleFor_62 rfl (lv_at hl 0 rfl) ?_
      refine bw_get S hK hI 0 1 rfl rfl (by decide) i_X5 f_X5_16 rfl dX5_bestRuleFor_63 ?_
      obtain ⟨r66, hc, h⟩ := bw_b1_e h
      refine bw_callV S hK hZ hI (mX0_leastDaysLeft l G cy g (b 1) (t_58 0) (t_58 1) (t_58 2) (t_58 3) (t_58 4) (t_58 5 0) (t_58 5 1) r66 hc) Y_X0_leastDaysLeft V_X0_leastDaysLeft l_X5_266 ⟨(Nat.le_of_ble_eq_true rfl), (Nat.le_of_ble_eq_true rfl)⟩ (q0 := 0) rfl rfl rfl (ws' := (bw_xW cy b d t_58 sl hn hs cs ln rp rn rt)) (bw_px_t cy b d t_58 sl hn hs cs ln rp rn rt) (bw_px_t cy b d t_58 sl hn hs cs ln rp rn rt).symm rfl rfl hl.1 (rest := []) (st1 := [.int r66]) rfl rfl (Nat.le_of_ble_eq_true rfl) dX5_bestRuleFor_66 ⟨(Nat.le_of_ble_eq_true rfl), (Nat.le_of_ble_eq_true rfl)⟩ (fun H locs hI => ?_)
      refine lv_istore (lv' := [(6, .int r66), (0, .ref (b 8 5)), (1, .int x1), (2, .int x2), (3, .int x3), (4, .int x4), (5, .int x5)]) hx hb dX5_bestRuleFor_69 hl (by decide) rfl (fun ls hl => ?_)
      refine lv_iload hx hb dX5_bestRuleFor_71 (lv_at hl 0 rfl) ?_
      refine lv_iload hx hb dX5_bestRuleFor_73 (lv_at hl 5 rfl) ?_
      refine lv_icmp_le (tgt := 85) hx hb dX5_bestRuleFor_75 (by decide) (fun c_75 => ?_) (fun c_75 => ?_)
      · rw [if_pos c_75] at h
        exact j85 t_58 x1 x2 x3 x4 x5 (lX5_bestRuleFor_21 d x1 x2 n) ih _ _ _ h hI (lv_sub hl [1,2,3,4,5,6] rfl)
      rw [if_neg c_75] at h
      refine lv_iload hx hb dX5_bestRuleFor_78 (lv_at hl 0 rfl) ?_
      refine lv_istore (lv' := [(4, .int r66), (6, .int r66), (0, .ref (b 8 5)), (1, .int x1), (2, .int x2), (3, .int x3), (5, .int x5)]) hx hb dX5_bestRuleFor_80 hl (by decide) rfl (fun ls hl => ?_)
      refine lv_iload hx hb dX5_bestRuleFor_82 (lv_at hl 6 rfl) ?_
      refine lv_istore_n (lv' := [(3, .int x5), (4, .int r66), (6, .int r66), (0, .ref (b 8 5)), (1, .int x1), (2, .int x2), (5, .int x5)]) hx hb dX5_bestRuleFor_84 rfl hl (by decide) rfl (fun ls hl => ?_)
      exact j85 t_58 x1 x2 x5 r66 x5 (lX5_bestRuleFor_21 d x1 x2 n) ih _ _ _ h hI (lv_sub hl [3,4,5,0,1,6] rfl)
  unfold fX5_bestRuleFor at h
  refine lv_aload_n hx hb dX5_bestRuleFor_0 rfl (lv_at hl 0 rfl) ?_
  refine bw_get S hK hI 0 0 rfl rfl (by decide) i_X5 f_X5_12 rfl dX5_bestRuleFor_1 ?_
  refine lv_iload_n hx hb dX5_bestRuleFor_4 rfl (lv_at hl 1 rfl) ?_
  obtain ⟨r5, hc, h⟩ := bw_b1_e h
  refine bw_callV S hK hZ hI (mX0_hasNextTask l G cy g (b 0) (d 0) (d 1) (d 2) (d 3) (d 4) (d 5 0) (d 5 1) p1 r5 hc) Y_X0_hasNextTask V_X0_hasNextTask l_X5_99 ⟨(Nat.le_of_ble_eq_true rfl), (Nat.le_of_ble_eq_true rfl)⟩ (q0 := 0) rfl rfl rfl (ws' := (bw_xW cy b d t sl hn hs cs ln rp rn rt)) (bw_px_d cy b d t sl hn hs cs ln rp rn rt) (bw_px_d cy b d t sl hn hs cs ln rp rn rt).symm rfl rfl hl.1 (rest := []) (st1 := [.int r5]) rfl rfl (Nat.le_of_ble_eq_true rfl) dX5_bestRuleFor_5 ⟨(Nat.le_of_ble_eq_true rfl), (Nat.le_of_ble_eq_true rfl)⟩ (fun H locs hI => ?_)
  refine lv_if_ne (tgt := 13) hx hb dX5_bestRuleFor_8 (by decide) (fun c_8 => ?_) (fun c_8 => ?_)
  · rw [if_neg c_8] at h
    refine lv_iconst (v := (-1)) hx hb dX5_bestRuleFor_13 rfl ?_
    refine lv_istore_n (lv' := [(3, .int (-1)), (0, .ref (b 8 5)), (1, .int p1), (2, .int p2)]) hx hb dX5_bestRuleFor_14 rfl hl (by decide) rfl (fun ls hl => ?_)
    refine lv_iconst (v := (-1)) hx hb dX5_bestRuleFor_15 rfl ?_
    refine lv_istore (lv' := [(4, .int (-1)), (3, .int (-1)), (0, .ref (b 8 5)), (1, .int p1), (2, .int p2)]) hx hb dX5_bestRuleFor_16 hl (by decide) rfl (fun ls hl => ?_)
    refine lv_iconst (v := 0) hx hb dX5_bestRuleFor_18 rfl ?_
    refine lv_istore (lv' := [(5, .int 0), (4, .int (-1)), (3, .int (-1)), (0, .ref (b 8 5)), (1, .int p1), (2, .int p2)]) hx hb dX5_bestRuleFor_19 hl (by decide) rfl (fun ls hl => ?_)
    exact l21 p1 p2 bw_fu _ _ _ t (-1) (-1) 0 h hI (lv_sub hl [3,4,5,2,1,0] rfl)
  rw [if_pos c_8] at h
  refine lv_iconst (v := (-1)) hx hb dX5_bestRuleFor_11 rfl ?_
  exact bw_iret (d := t) (rr := (r, t')) S hr hlocks h (fun q : bw_A2 => (bw_xW cy b d q sl hn hs cs ln rp rn rt)) hI rfl dX5_bestRuleFor_12 hQ
set_option maxHeartbeats 4000000 in
set_option maxRecDepth 100000 in
theorem mX5_bestRule (l : Launch) (hfl : l.stackTraces = false) (G : va_G) (cy : Nat → ClassId) (g : Nat) (b : Nat → Nat → Nat) (d : bw_A2) (t : bw_A2) (sl : bw_A3) (hn : Int32) (hs : Int32) (cs : bw_A1) (ln : Int32) (rp : Int32) (rn : Int32) (rt : Int32) (p1 : Int32) (p2 : Int32) (ec : Nat) (r : Int32) (t' : bw_A2) (h : fX5_bestRule d t p1 p2 = some (ec, r, t')) : bw_MX l yX5_bestRule cX5_bestRule 3 (some .int) 7 155 3 G cy g [.ref (b 8 5), .int p1, .int p2] (bw_xW cy b d t sl hn hs cs ln rp rn rt) ec (some (.int r)) (bw_xW cy b d t' sl hn hs cs ln rp rn rt) := by
  refine bw_ofWX (by decide +kernel) RX5 rfl (Nat.le_of_ble_eq_true rfl) ?_
  intro p e s m below meth c ls S hr hlocks hno hK hZ hI hl
  have hx := S.1
  have hb := S.2.1
  have hown := S.2.2.2.1
  have hts := S.2.2.2.2
  generalize va_A _ s.heap.size = A at hI hZ ⊢
  generalize hQ : vx_MQ below _ _ _ s 3 (6 * 3) A = Q
  have hl : lv_has ls 3 [(0, .ref (b 8 5)), (1, .int p1), (2, .int p2)] := hl
  unfold fX5_bestRule at h
  refine lv_aload_n hx hb dX5_bestRule_0 rfl (lv_at hl 0 rfl) ?_
  refine lv_iload_n hx hb dX5_bestRule_1 rfl (lv_at hl 1 rfl) ?_
  obtain ⟨k2, hc, h⟩ := bw_b1_e h
  refine bw_callVX S hK hZ hI (mX5_needProject l hfl G cy g b d t sl hn hs cs ln rp rn rt p1 k2 hc) Y_X5_needProject V_X5_needProject l_X5_61 ⟨(Nat.le_of_ble_eq_true rfl), (Nat.le_of_ble_eq_true rfl)⟩ (q0 := 0) rfl rfl rfl (ws' := (bw_xW cy b d t sl hn hs cs ln rp rn rt)) (bw_pS _) (bw_pS' _) rfl rfl hl.1 (rest := []) (st1 := []) rfl rfl (Nat.le_of_ble_eq_true rfl) dX5_bestRule_2 ⟨(Nat.le_of_ble_eq_true rfl), (Nat.le_of_ble_eq_true rfl)⟩ (fun h0 q ce H locs hI h1 h2 h3 => ?_) (fun h0 H locs hI => ?_)
  · have h := bw_thn_f h h0
    exact bw_outX (dd := (0, t)) (rr := (r, t')) hno hlocks h0 h (fun q : (Int32 × bw_A2) => (bw_xW cy b d q.2 sl hn hs cs ln rp rn rt)) (fun q : (Int32 × bw_A2) => some (.int q.1)) hI h1 h2 h3 (Nat.le_of_ble_eq_true rfl) (Nat.le_of_ble_eq_true rfl) hQ
  have h := bw_thn_t h h0
  refine lv_iload_n hx hb dX5_bestRule_5 rfl (lv_at hl 2 rfl) ?_
  obtain ⟨k6, hc, h⟩ := bw_b1_e h
  refine bw_callPX S hK hZ hI (mX5_needDaysTaken l hfl G cy g p2 k6 hc) Y_X5_needDaysTaken V_X5_needDaysTaken l_X5_96 ⟨(Nat.le_of_ble_eq_true rfl), (Nat.le_of_ble_eq_true rfl)⟩ (rest := []) (st1 := []) rfl hl.1 rfl rfl (Nat.le_of_ble_eq_true rfl) dX5_bestRule_6 ⟨(Nat.le_of_ble_eq_true rfl), (Nat.le_of_ble_eq_true rfl)⟩ (fun h0 q ce H locs hI h1 h2 h3 => ?_) (fun h0 H locs hI => ?_)
  · have h := bw_thn_f h h0
    exact bw_outX (dd := (0, t)) (rr := (r, t')) hno hlocks h0 h (fun q : (Int32 × bw_A2) => (bw_xW cy b d q.2 sl hn hs cs ln rp rn rt)) (fun q : (Int32 × bw_A2) => some (.int q.1)) hI h1 h2 h3 (Nat.le_of_ble_eq_true rfl) (Nat.le_of_ble_eq_true rfl) hQ
  have h := bw_thn_t h h0
  refine lv_aload_n hx hb dX5_bestRule_9 rfl (lv_at hl 0 rfl) ?_
  refine lv_iload_n hx hb dX5_bestRule_10 rfl (lv_at hl 1 rfl) ?_
  refine lv_iload_n hx hb dX5_bestRule_11 rfl (lv_at hl 2 rfl) ?_
  obtain ⟨r12, t_12, hc, h⟩ := bw_b2_e h
  refine bw_callV S hK hZ hI (mX5_bestRuleFor l G cy g b d t sl hn hs cs ln rp rn rt p1 p2 r12 t_12 hc) Y_X5_bestRuleFor V_X5_bestRuleFor l_X5_217 ⟨(Nat.le_of_ble_eq_true rfl), (Nat.le_of_ble_eq_true rfl)⟩ (q0 := 0) rfl rfl rfl (ws' := (bw_xW cy b d t_12 sl hn hs cs ln rp rn rt)) (bw_pS _) (bw_pS' _) rfl rfl hl.1 (rest := []) (st1 := [.int r12]) rfl rfl (Nat.le_of_ble_eq_true rfl) dX5_bestRule_12 ⟨(Nat.le_of_ble_eq_true rfl), (Nat.le_of_ble_eq_true rfl)⟩ (fun H locs hI => ?_)
  exact bw_iretX (dd := (r12, t_12)) (rr := (r, t')) S hr hlocks h (fun q : (Int32 × bw_A2) => (bw_xW cy b d q.2 sl hn hs cs ln rp rn rt)) (fun q : (Int32 × bw_A2) => some (.int q.1)) rfl hI rfl (Nat.le_of_ble_eq_true rfl) (Nat.le_of_ble_eq_true rfl) dX5_bestRule_15 hQ
set_option maxHeartbeats 4000000 in
set_option maxRecDepth 100000 in
theorem mX5_mixWhatWouldBe (l : Launch) (G : va_G) (cy : Nat → ClassId) (g : Nat) (b : Nat → Nat → Nat) (d : bw_A2) (t : bw_A2) (sl : bw_A3) (hn : Int32) (hs : Int32) (cs : bw_A1) (ln : Int32) (rp : Int32) (rn : Int32) (rt : Int32) (p1 : Int64) (p3 : Int32) (r : Int64) (t' : bw_A2) (h : fX5_mixWhatWouldBe d t p1 p3 = some (r, t')) : bw_M l yX5_mixWhatWouldBe cX5_mixWhatWouldBe 8 (some .long) 6 155 G cy g [.ref (b 8 5), .long p1, .int p3] (bw_xW cy b d t sl hn hs cs ln rp rn rt) (some (.long r)) (bw_xW cy b d t' sl hn hs cs ln rp rn rt) := by
  refine bw_ofW (by decide +kernel) RX5 rfl (Nat.le_of_ble_eq_true rfl) ?_
  intro p e s m below meth c ls S hr hlocks hK hZ hI hl
  have hx := S.1
  have hb := S.2.1
  have hown := S.2.2.2.1
  have hts := S.2.2.2.2
  generalize va_A _ s.heap.size = A at hI hZ ⊢
  generalize hQ : MQ below _ _ s 0 0 A = Q
  have hl : lv_has ls 8 [(0, .ref (b 8 5)), (1, .long p1), (3, .int p3)] := hl
  have l83 : ∀ (t : bw_A2) (x3 : Int32) (n : Nat) (H : Heap) (locs : List Loc) (ls : Array Slot) (x4 : Int64) (x7 : Int32), lX5_mixWhatWouldBe_83 d t x3 n x4 x7 = some (r, t') → bw_I G A s.heap (bw_xW cy b d t sl hn hs cs ln rp rn rt) H locs → lv_has ls 8 [(0, .ref (b 8 5)), (3, .int x3), (4, .long x4), (7, .int x7)] → W p l e (bw_rm 6 155) s m [.ref (b 8 5), .long p1, .int p3].toArray below meth c H locs 0 0 Q (F0 m 83 ls []) := by
    intro t x3 n
    induction n with
    | zero => intro H locs ls x4 x7 h; exact bw_none h
    | succ n ih =>
      intro H locs ls x4 x7 h hI hl
      have h : bX5_mixWhatWouldBe_83  (lX5_mixWhatWouldBe_83 d t x3 n) d t x3 x4 x7 = some (r, t') := h
      unfold bX5_mixWhatWouldBe_83 at h
      refine lv_iload hx hb dX5_mixWhatWouldBe_83 (lv_at hl 3 rfl) ?_
      refine lv_aload_n hx hb dX5_mixWhatWouldBe_85 rfl (lv_at hl 0 rfl) ?_
      refine bw_get S hK hI 0 0 rfl rfl (by decide) i_X5 f_X5_12 rfl dX5_mixWhatWouldBe_86 ?_
      obtain ⟨r89, hc, h⟩ := bw_b1_e h
      refine bw_callV S hK hZ hI (mX0_projects l G cy g (b 0) (d 0) (d 1) (d 2) (d 3) (d 4) (d 5 0) (d 5 1) r89 hc) Y_X0_projects V_X0_projects l_X5_44 ⟨(Nat.le_of_ble_eq_true rfl), (Nat.le_of_ble_eq_true rfl)⟩ (q0 := 0) rfl rfl rfl (ws' := (bw_xW cy b d t sl hn hs cs ln rp rn rt)) (bw_px_d cy b d t sl hn hs cs ln rp rn rt) (bw_px_d cy b d t sl hn hs cs ln rp rn rt).symm rfl rfl hl.1 (rest := [.int x7]) (st1 := [.int r89, .int x7]) rfl rfl (Nat.le_of_ble_eq_true rfl) dX5_mixWhatWouldBe_89 ⟨(Nat.le_of_ble_eq_true rfl), (Nat.le_of_ble_eq_true rfl)⟩ (fun H locs hI => ?_)
      refine lv_icmp_ge (tgt := 119) hx hb dX5_mixWhatWouldBe_92 (by decide) (fun c_92 => ?_) (fun c_92 => ?_)
      · rw [if_pos c_92] at h
        refine lv_lload hx hb dX5_mixWhatWouldBe_119 (lv_at hl 2 rfl) ?_
        exact bw_lret (d := t) (rr := (r, t')) S hr hlocks h (fun q : bw_A2 => (bw_xW cy b d q sl hn hs cs ln rp rn rt)) hI dX5_mixWhatWouldBe_121 hQ
      rw [if_neg c_92] at h
      refine lv_lload hx hb dX5_mixWhatWouldBe_95 (lv_at hl 2 rfl) ?_
      refine lv_aload_n hx hb dX5_mixWhatWouldBe_97 rfl (lv_at hl 0 rfl) ?_
      refine bw_get S hK hI 0 0 rfl rfl (by decide) i_X5 f_X5_12 rfl dX5_mixWhatWouldBe_98 ?_
      refine lv_iload_n hx hb dX5_mixWhatWouldBe_101 rfl (lv_at hl 1 rfl) ?_
      refine lv_iload hx hb dX5_mixWhatWouldBe_102 (lv_at hl 3 rfl) ?_
      obtain ⟨r104, hc, h⟩ := bw_b1_e h
      refine bw_callV S hK hZ hI (mX0_daysOwed l G cy g (b 0) (d 0) (d 1) (d 2) (d 3) (d 4) (d 5 0) (d 5 1) x3 x7 r104 hc) Y_X0_daysOwed V_X0_daysOwed l_X5_115 ⟨(Nat.le_of_ble_eq_true rfl), (Nat.le_of_ble_eq_true rfl)⟩ (q0 := 0) rfl rfl rfl (ws' := (bw_xW cy b d t sl hn hs cs ln rp rn rt)) (bw_px_d cy b d t sl hn hs cs ln rp rn rt) (bw_px_d cy b d t sl hn hs cs ln rp rn rt).symm rfl rfl hl.1 (rest := [.long x4]) (st1 := [.int r104, .long x4]) rfl rfl (Nat.le_of_ble_eq_true rfl) dX5_mixWhatWouldBe_104 ⟨(Nat.le_of_ble_eq_true rfl), (Nat.le_of_ble_eq_true rfl)⟩ (fun H locs hI => ?_)
      refine lv_i2l hx hb dX5_mixWhatWouldBe_107 rfl ?_
      obtain ⟨r108, hc, h⟩ := bw_b1_e h
      refine bw_callP S hK hZ hI (mX5_mix l G cy g x4 (Int32.toInt64 r104) r108 hc) Y_X5_mix V_X5_mix l_X5_228 ⟨(Nat.le_of_ble_eq_true rfl), (Nat.le_of_ble_eq_true rfl)⟩ (rest := []) (st1 := [.long r108]) rfl hl.1 rfl rfl (Nat.le_of_ble_eq_true rfl) dX5_mixWhatWouldBe_108 ⟨(Nat.le_of_ble_eq_true rfl), (Nat.le_of_ble_eq_true rfl)⟩ (fun H locs hI => ?_)
      refine lv_lstore (lv' := [(4, .long r108), (0, .ref (b 8 5)), (3, .int x3), (7, .int x7)]) hx hb dX5_mixWhatWouldBe_111 hl (by decide) rfl (fun ls hl => ?_)
      obtain ⟨x7_113, e_113⟩ : ∃ y : Int32, y = x7 + 1 := ⟨_, rfl⟩
      have h := bw_let_e h e_113
      refine lv_iinc (v := x7_113) (lv' := [(7, .int x7_113), (4, .long r108), (0, .ref (b 8 5)), (3, .int x3)]) hx hb dX5_mixWhatWouldBe_113 hl (k := 3) rfl (by rw [e_113]; rfl) (by decide) rfl (fun ls hl => ?_)
      clear e_113
      refine lv_goto (tgt := 83) hx hb dX5_mixWhatWouldBe_116 (by decide) ?_
      exact ih _ _ _ r108 x7_113 h hI (lv_sub hl [2,3,1,0] rfl)
  have j54 : ∀ (t : bw_A2) (x3 : Int32) (x6 : Int32) (x7 : Int32) (s0 : Int64) (s1 : Int64) (k27 : Int64 → Int32 → Option (Int64 × bw_A2)) (hk27 : ∀ (H : Heap) (locs : List Loc) (ls : Array Slot) (x4_ : Int64) (x7_ : Int32), k27 x4_ x7_ = some (r, t') → bw_I G A s.heap (bw_xW cy b d t sl hn hs cs ln rp rn rt) H locs → lv_has ls 8 [(0, .ref (b 8 5)), (3, .int x3), (4, .long x4_), (6, .int x6), (7, .int x7_)] → W p l e (bw_rm 6 155) s m [.ref (b 8 5), .long p1, .int p3].toArray below meth c H locs 0 0 Q (F0 m 27 ls [])) (H : Heap) (locs : List Loc) (ls : Array Slot), jX5_mixWhatWouldBe_54 k27 d t x3 x6 x7 s0 s1 = some (r, t') → bw_I G A s.heap (bw_xW cy b d t sl hn hs cs ln rp rn rt) H locs → lv_has ls 8 [(0, .ref (b 8 5)), (3, .int x3), (6, .int x6), (7, .int x7)] → W p l e (bw_rm 6 155) s m [.ref (b 8 5), .long p1, .int p3].toArray below meth c H locs 0 0 Q (F0 m 54 ls [.long s0, .long s1]) := by
    intro t x3 x6 x7 s0 s1 k27 hk27 H locs ls h hI hl
    unfold jX5_mixWhatWouldBe_54 at h
    obtain ⟨r54, hc, h⟩ := bw_b1_e h
    refine bw_callP S hK hZ hI (mX5_mix l G cy g s1 s0 r54 hc) Y_X5_mix V_X5_mix l_X5_228 ⟨(Nat.le_of_ble_eq_true rfl), (Nat.le_of_ble_eq_true rfl)⟩ (rest := []) (st1 := [.long r54]) rfl hl.1 rfl rfl (Nat.le_of_ble_eq_true rfl) dX5_mixWhatWouldBe_54 ⟨(Nat.le_of_ble_eq_true rfl), (Nat.le_of_ble_eq_true rfl)⟩ (fun H locs hI => ?_)
    refine lv_lstore (lv' := [(4, .long r54), (0, .ref (b 8 5)), (3, .int x3), (6, .int x6), (7, .int x7)]) hx hb dX5_mixWhatWouldBe_57 hl (by decide) rfl (fun ls hl => ?_)
    obtain ⟨x7_59, e_59⟩ : ∃ y : Int32, y = x7 + 1 := ⟨_, rfl⟩
    have h := bw_let_e h e_59
    refine lv_iinc (v := x7_59) (lv' := [(7, .int x7_59), (4, .long r54), (0, .ref (b 8 5)), (3, .int x3), (6, .int x6)]) hx hb dX5_mixWhatWouldBe_59 hl (k := 4) rfl (by rw [e_59]; rfl) (by decide) rfl (fun ls hl => ?_)
    clear e_59
    refine lv_goto (tgt := 27) hx hb dX5_mixWhatWouldBe_62 (by decide) ?_
    exact hk27 _ _ _ r54 x7_59 h hI (lv_sub hl [2,3,1,4,0] rfl)
  have l27 : ∀ (t : bw_A2) (x3 : Int32) (x6 : Int32) (n : Nat) (H : Heap) (locs : List Loc) (ls : Array Slot) (x4 : Int64) (x7 : Int32), lX5_mixWhatWouldBe_27 d t x3 x6 n x4 x7 = some (r, t') → bw_I G A s.heap (bw_xW cy b d t sl hn hs cs ln rp rn rt) H locs → lv_has ls 8 [(0, .ref (b 8 5)), (3, .int x3), (4, .long x4), (6, .int x6), (7, .int x7)] → W p l e (bw_rm 6 155) s m [.ref (b 8 5), .long p1, .int p3].toArray below meth c H locs 0 0 Q (F0 m 27 ls []) := by
    intro t x3 x6 n
    induction n with
    | zero => intro H locs ls x4 x7 h; exact bw_none h
    | succ n ih =>
      intro H locs ls x4 x7 h hI hl
      have h : bX5_mixWhatWouldBe_27  (lX5_mixWhatWouldBe_27 d t x3 x6 n) d t x3 x6 x4 x7 = some (r, t') := h
      unfold bX5_mixWhatWouldBe_27 at h
      refine lv_iload hx hb dX5_mixWhatWouldBe_27 (lv_at hl 4 rfl) ?_
      refine lv_iconst (v := 4) hx hb dX5_mixWhatWouldBe_29 rfl ?_
      refine lv_icmp_gt (tgt := 65) hx hb dX5_mixWhatWouldBe_30 (by decide) (fun c_30 => ?_) (fun c_30 => ?_)
      · rw [if_pos c_30] at h
        refine lv_lload hx hb dX5_mixWhatWouldBe_65 (lv_at hl 2 rfl) ?_
        refine lv_aload_n hx hb dX5_mixWhatWouldBe_67 rfl (lv_at hl 0 rfl) ?_
        refine lv_iload_n hx hb dX5_mixWhatWouldBe_68 rfl (lv_at hl 1 rfl) ?_
        refine lv_bipush (v := 60) hx hb dX5_mixWhatWouldBe_69 (by decide) ?_
        obtain ⟨r71, t_71, hc, h⟩ := bw_b2_e h
        refine bw_callV S hK hZ hI (mX5_bestRuleFor l G cy g b d t sl hn hs cs ln rp rn rt x3 60 r71 t_71 hc) Y_X5_bestRuleFor V_X5_bestRuleFor l_X5_217 ⟨(Nat.le_of_ble_eq_true rfl), (Nat.le_of_ble_eq_true rfl)⟩ (q0 := 0) rfl rfl rfl (ws' := (bw_xW cy b d t_71 sl hn hs cs ln rp rn rt)) (bw_pS _) (bw_pS' _) rfl rfl hl.1 (rest := [.long x4]) (st1 := [.int r71, .long x4]) rfl rfl (Nat.le_of_ble_eq_true rfl) dX5_mixWhatWouldBe_71 ⟨(Nat.le_of_ble_eq_true rfl), (Nat.le_of_ble_eq_true rfl)⟩ (fun H locs hI => ?_)
        refine lv_i2l hx hb dX5_mixWhatWouldBe_74 rfl ?_
        obtain ⟨r75, hc, h⟩ := bw_b1_e h
        refine bw_callP S hK hZ hI (mX5_mix l G cy g x4 (Int32.toInt64 r71) r75 hc) Y_X5_mix V_X5_mix l_X5_228 ⟨(Nat.le_of_ble_eq_true rfl), (Nat.le_of_ble_eq_true rfl)⟩ (rest := []) (st1 := [.long r75]) rfl hl.1 rfl rfl (Nat.le_of_ble_eq_true rfl) dX5_mixWhatWouldBe_75 ⟨(Nat.le_of_ble_eq_true rfl), (Nat.le_of_ble_eq_true rfl)⟩ (fun H locs hI => ?_)
        refine lv_lstore (lv' := [(4, .long r75), (0, .ref (b 8 5)), (3, .int x3), (6, .int x6), (7, .int x7)]) hx hb dX5_mixWhatWouldBe_78 hl (by decide) rfl (fun ls hl => ?_)
        refine lv_iconst (v := 0) hx hb dX5_mixWhatWouldBe_80 rfl ?_
        refine lv_istore (lv' := [(7, .int 0), (4, .long r75), (0, .ref (b 8 5)), (3, .int x3), (6, .int x6)]) hx hb dX5_mixWhatWouldBe_81 hl (by decide) rfl (fun ls hl => ?_)
        exact l83 t_71 x3 bw_fu _ _ _ r75 0 h hI (lv_sub hl [2,3,1,0] rfl)
      rw [if_neg c_30] at h
      refine lv_lload hx hb dX5_mixWhatWouldBe_33 (lv_at hl 2 rfl) ?_
      refine lv_iload hx hb dX5_mixWhatWouldBe_35 (lv_at hl 3 rfl) ?_
      refine lv_if_eq (tgt := 51) hx hb dX5_mixWhatWouldBe_37 (by decide) (fun c_37 => ?_) (fun c_37 => ?_)
      · rw [if_pos c_37] at h
        refine lv_ldc2 hx hb hown (hts _ (List.mem_cons_of_mem _ k_X5_271)) dX5_mixWhatWouldBe_51 ?_
        exact j54 t x3 x6 x7 (-1) x4 (lX5_mixWhatWouldBe_27 d t x3 x6 n) ih _ _ _ h hI (lv_sub hl [0,1,3,4] rfl)
      rw [if_neg c_37] at h
      refine lv_aload_n hx hb dX5_mixWhatWouldBe_40 rfl (lv_at hl 0 rfl) ?_
      refine lv_iload_n hx hb dX5_mixWhatWouldBe_41 rfl (lv_at hl 1 rfl) ?_
      refine lv_iload hx hb dX5_mixWhatWouldBe_42 (lv_at hl 4 rfl) ?_
      obtain ⟨r44, hc, h⟩ := bw_b1_e h
      refine bw_callV S hK hZ hI (mX5_resultOfTrial l G cy g b d t sl hn hs cs ln rp rn rt x3 x7 r44 hc) Y_X5_resultOfTrial V_X5_resultOfTrial l_X5_208 ⟨(Nat.le_of_ble_eq_true rfl), (Nat.le_of_ble_eq_true rfl)⟩ (q0 := 0) rfl rfl rfl (ws' := (bw_xW cy b d t sl hn hs cs ln rp rn rt)) (bw_pS _) (bw_pS' _) rfl rfl hl.1 (rest := [.long x4]) (st1 := [.int r44, .long x4]) rfl rfl (Nat.le_of_ble_eq_true rfl) dX5_mixWhatWouldBe_44 ⟨(Nat.le_of_ble_eq_true rfl), (Nat.le_of_ble_eq_true rfl)⟩ (fun H locs hI => ?_)
      refine lv_i2l hx hb dX5_mixWhatWouldBe_47 rfl ?_
      refine lv_goto (tgt := 54) hx hb dX5_mixWhatWouldBe_48 (by decide) ?_
      exact j54 t x3 x6 x7 (Int32.toInt64 r44) x4 (lX5_mixWhatWouldBe_27 d t x3 x6 n) ih _ _ _ h hI (lv_sub hl [0,1,3,4] rfl)
  unfold fX5_mixWhatWouldBe at h
  refine lv_lload_n hx hb dX5_mixWhatWouldBe_0 rfl (lv_at hl 1 rfl) ?_
  refine lv_aload_n hx hb dX5_mixWhatWouldBe_1 rfl (lv_at hl 0 rfl) ?_
  refine bw_get S hK hI 0 0 rfl rfl (by decide) i_X5 f_X5_12 rfl dX5_mixWhatWouldBe_2 ?_
  refine lv_iload_n hx hb dX5_mixWhatWouldBe_5 rfl (lv_at hl 2 rfl) ?_
  obtain ⟨r6, hc, h⟩ := bw_b1_e h
  refine bw_callV S hK hZ hI (mX0_bearableDelay l G cy g (b 0) (d 0) (d 1) (d 2) (d 3) (d 4) (d 5 0) (d 5 1) p3 r6 hc) Y_X0_bearableDelay V_X0_bearableDelay l_X5_211 ⟨(Nat.le_of_ble_eq_true rfl), (Nat.le_of_ble_eq_true rfl)⟩ (q0 := 0) rfl rfl rfl (ws' := (bw_xW cy b d t sl hn hs cs ln rp rn rt)) (bw_px_d cy b d t sl hn hs cs ln rp rn rt) (bw_px_d cy b d t sl hn hs cs ln rp rn rt).symm rfl rfl hl.1 (rest := [.long p1]) (st1 := [.int r6, .long p1]) rfl rfl (Nat.le_of_ble_eq_true rfl) dX5_mixWhatWouldBe_6 ⟨(Nat.le_of_ble_eq_true rfl), (Nat.le_of_ble_eq_true rfl)⟩ (fun H locs hI => ?_)
  refine lv_i2l hx hb dX5_mixWhatWouldBe_9 rfl ?_
  obtain ⟨r10, hc, h⟩ := bw_b1_e h
  refine bw_callP S hK hZ hI (mX5_mix l G cy g p1 (Int32.toInt64 r6) r10 hc) Y_X5_mix V_X5_mix l_X5_228 ⟨(Nat.le_of_ble_eq_true rfl), (Nat.le_of_ble_eq_true rfl)⟩ (rest := []) (st1 := [.long r10]) rfl hl.1 rfl rfl (Nat.le_of_ble_eq_true rfl) dX5_mixWhatWouldBe_10 ⟨(Nat.le_of_ble_eq_true rfl), (Nat.le_of_ble_eq_true rfl)⟩ (fun H locs hI => ?_)
  refine lv_lstore (lv' := [(4, .long r10), (0, .ref (b 8 5)), (1, .long p1), (3, .int p3)]) hx hb dX5_mixWhatWouldBe_13 hl (by decide) rfl (fun ls hl => ?_)
  refine lv_aload_n hx hb dX5_mixWhatWouldBe_15 rfl (lv_at hl 1 rfl) ?_
  refine lv_iload_n hx hb dX5_mixWhatWouldBe_16 rfl (lv_at hl 3 rfl) ?_
  refine lv_bipush (v := 60) hx hb dX5_mixWhatWouldBe_17 (by decide) ?_
  obtain ⟨r19, t_19, hc, h⟩ := bw_b2_e h
  refine bw_callV S hK hZ hI (mX5_tryNextTask l G cy g b d t sl hn hs cs ln rp rn rt p3 60 r19 t_19 hc) Y_X5_tryNextTask V_X5_tryNextTask l_X5_204 ⟨(Nat.le_of_ble_eq_true rfl), (Nat.le_of_ble_eq_true rfl)⟩ (q0 := 0) rfl rfl rfl (ws' := (bw_xW cy b d t_19 sl hn hs cs ln rp rn rt)) (bw_pS _) (bw_pS' _) rfl rfl hl.1 (rest := []) (st1 := [.int r19]) rfl rfl (Nat.le_of_ble_eq_true rfl) dX5_mixWhatWouldBe_19 ⟨(Nat.le_of_ble_eq_true rfl), (Nat.le_of_ble_eq_true rfl)⟩ (fun H locs hI => ?_)
  refine lv_istore (lv' := [(6, .int r19), (4, .long r10), (0, .ref (b 8 5)), (1, .long p1), (3, .int p3)]) hx hb dX5_mixWhatWouldBe_22 hl (by decide) rfl (fun ls hl => ?_)
  refine lv_iconst (v := 0) hx hb dX5_mixWhatWouldBe_24 rfl ?_
  refine lv_istore (lv' := [(7, .int 0), (6, .int r19), (4, .long r10), (0, .ref (b 8 5)), (1, .long p1), (3, .int p3)]) hx hb dX5_mixWhatWouldBe_25 hl (by decide) rfl (fun ls hl => ?_)
  exact l27 t_19 p3 r19 bw_fu _ _ _ r10 0 h hI (lv_sub hl [3,5,2,1,0] rfl)
set_option maxHeartbeats 4000000 in
set_option maxRecDepth 100000 in
theorem mX5_digest (l : Launch) (G : va_G) (cy : Nat → ClassId) (g : Nat) (b : Nat → Nat → Nat) (d : bw_A2) (t : bw_A2) (sl : bw_A3) (hn : Int32) (hs : Int32) (cs : bw_A1) (ln : Int32) (rp : Int32) (rn : Int32) (rt : Int32) (r : Int64) (d' : bw_A2) (t' : bw_A2) (h : fX5_digest d t hs cs ln = some (r, d', t')) : bw_M l yX5_digest cX5_digest 5 (some .long) 7 182 G cy g [.ref (b 8 5)] (bw_xW cy b d t sl hn hs cs ln rp rn rt) (some (.long r)) (bw_xW cy b d' t' sl hn hs cs ln rp rn rt) := by
  refine bw_ofW (by decide +kernel) RX5 rfl (Nat.le_of_ble_eq_true rfl) ?_
  intro p e s m below meth c ls S hr hlocks hK hZ hI hl
  have hx := S.1
  have hb := S.2.1
  have hown := S.2.2.2.1
  have hts := S.2.2.2.2
  generalize va_A _ s.heap.size = A at hI hZ ⊢
  generalize hQ : MQ below _ _ s 0 0 A = Q
  have hl : lv_has ls 5 [(0, .ref (b 8 5))] := hl
  have l182 : ∀ (d : bw_A2) (t : bw_A2) (n : Nat) (H : Heap) (locs : List Loc) (ls : Array Slot) (x1 : Int64) (x3 : Int32), lX5_digest_182 d t hs cs ln n x1 x3 = some (r, d', t') → bw_I G A s.heap (bw_xW cy b d t sl hn hs cs ln rp rn rt) H locs → lv_has ls 5 [(0, .ref (b 8 5)), (1, .long x1), (3, .int x3)] → W p l e (bw_rm 7 182) s m [.ref (b 8 5)].toArray below meth c H locs 0 0 Q (F0 m 182 ls []) := by
    intro d t n
    induction n with
    | zero => intro H locs ls x1 x3 h; exact bw_none h
    | succ n ih =>
      intro H locs ls x1 x3 h hI hl
      have h : bX5_digest_182  (lX5_digest_182 d t hs cs ln n) d t hs cs ln x1 x3 = some (r, d', t') := h
      unfold bX5_digest_182 at h
      refine lv_iload_n hx hb dX5_digest_182 rfl (lv_at hl 2 rfl) ?_
      refine lv_aload_n hx hb dX5_digest_183 rfl (lv_at hl 0 rfl) ?_
      refine bw_get S hK hI 0 3 rfl rfl (by decide) i_X5 f_X5_29 rfl dX5_digest_184 ?_
      obtain ⟨r187, hc, h⟩ := bw_b1_e h
      refine bw_callV S hK hZ hI (mX4_length l G cy g (b 8 2) (b 8 3) (b 8 4) cs ln rp rn rt r187 hc) Y_X4_length V_X4_length l_X5_134 ⟨(Nat.le_of_ble_eq_true rfl), (Nat.le_of_ble_eq_true rfl)⟩ (q0 := 0) rfl rfl rfl (ws' := (bw_xW cy b d t sl hn hs cs ln rp rn rt)) (bw_px_x cy b d t sl hn hs cs ln rp rn rt) (bw_px_x cy b d t sl hn hs cs ln rp rn rt).symm rfl rfl hl.1 (rest := [.int x3]) (st1 := [.int r187, .int x3]) rfl rfl (Nat.le_of_ble_eq_true rfl) dX5_digest_187 ⟨(Nat.le_of_ble_eq_true rfl), (Nat.le_of_ble_eq_true rfl)⟩ (fun H locs hI => ?_)
      refine lv_icmp_ge (tgt := 213) hx hb dX5_digest_190 (by decide) (fun c_190 => ?_) (fun c_190 => ?_)
      · rw [if_pos c_190] at h
        refine lv_lload_n hx hb dX5_digest_213 rfl (lv_at hl 1 rfl) ?_
        exact bw_lret (d := (d, t)) (rr := (r, d', t')) S hr hlocks h (fun q : (bw_A2 × bw_A2) => (bw_xW cy b q.1 q.2 sl hn hs cs ln rp rn rt)) hI dX5_digest_214 hQ
      rw [if_neg c_190] at h
      refine lv_lload_n hx hb dX5_digest_193 rfl (lv_at hl 1 rfl) ?_
      refine lv_aload_n hx hb dX5_digest_194 rfl (lv_at hl 0 rfl) ?_
      refine bw_get S hK hI 0 3 rfl rfl (by decide) i_X5 f_X5_29 rfl dX5_digest_195 ?_
      refine lv_iload_n hx hb dX5_digest_198 rfl (lv_at hl 2 rfl) ?_
      obtain ⟨r199, hc, h⟩ := bw_b1_e h
      refine bw_callV S hK hZ hI (mX4_codeAt l G cy g (b 8 2) (b 8 3) (b 8 4) cs ln rp rn rt x3 r199 hc) Y_X4_codeAt V_X4_codeAt l_X5_251 ⟨(Nat.le_of_ble_eq_true rfl), (Nat.le_of_ble_eq_true rfl)⟩ (q0 := 0) rfl rfl rfl (ws' := (bw_xW cy b d t sl hn hs cs ln rp rn rt)) (bw_px_x cy b d t sl hn hs cs ln rp rn rt) (bw_px_x cy b d t sl hn hs cs ln rp rn rt).symm rfl rfl hl.1 (rest := [.long x1]) (st1 := [.int r199, .long x1]) rfl rfl (Nat.le_of_ble_eq_true rfl) dX5_digest_199 ⟨(Nat.le_of_ble_eq_true rfl), (Nat.le_of_ble_eq_true rfl)⟩ (fun H locs hI => ?_)
      refine lv_i2l hx hb dX5_digest_202 rfl ?_
      obtain ⟨r203, hc, h⟩ := bw_b1_e h
      refine bw_callP S hK hZ hI (mX5_mix l G cy g x1 (Int32.toInt64 r199) r203 hc) Y_X5_mix V_X5_mix l_X5_228 ⟨(Nat.le_of_ble_eq_true rfl), (Nat.le_of_ble_eq_true rfl)⟩ (rest := []) (st1 := [.long r203]) rfl hl.1 rfl rfl (Nat.le_of_ble_eq_true rfl) dX5_digest_203 ⟨(Nat.le_of_ble_eq_true rfl), (Nat.le_of_ble_eq_true rfl)⟩ (fun H locs hI => ?_)
      refine lv_lstore_n (lv' := [(1, .long r203), (0, .ref (b 8 5)), (3, .int x3)]) hx hb dX5_digest_206 rfl hl (by decide) rfl (fun ls hl => ?_)
      obtain ⟨x3_207, e_207⟩ : ∃ y : Int32, y = x3 + 1 := ⟨_, rfl⟩
      have h := bw_let_e h e_207
      refine lv_iinc (v := x3_207) (lv' := [(3, .int x3_207), (1, .long r203), (0, .ref (b 8 5))]) hx hb dX5_digest_207 hl (k := 2) rfl (by rw [e_207]; rfl) (by decide) rfl (fun ls hl => ?_)
      clear e_207
      refine lv_goto (tgt := 182) hx hb dX5_digest_210 (by decide) ?_
      exact ih _ _ _ r203 x3_207 h hI (lv_sub hl [2,1,0] rfl)
  have l108 : ∀ (d : bw_A2) (t : bw_A2) (x3 : Int32) (k94 : Int64 → Int32 → Option (Int64 × bw_A2 × bw_A2)) (hk94 : ∀ (H : Heap) (locs : List Loc) (ls : Array Slot) (x1_ : Int64) (x3_ : Int32), k94 x1_ x3_ = some (r, d', t') → bw_I G A s.heap (bw_xW cy b d t sl hn hs cs ln rp rn rt) H locs → lv_has ls 5 [(0, .ref (b 8 5)), (1, .long x1_), (3, .int x3_)] → W p l e (bw_rm 7 182) s m [.ref (b 8 5)].toArray below meth c H locs 0 0 Q (F0 m 94 ls [])) (n : Nat) (H : Heap) (locs : List Loc) (ls : Array Slot) (x1 : Int64) (x4 : Int32), lX5_digest_108 k94 d t hs cs ln x3 n x1 x4 = some (r, d', t') → bw_I G A s.heap (bw_xW cy b d t sl hn hs cs ln rp rn rt) H locs → lv_has ls 5 [(0, .ref (b 8 5)), (1, .long x1), (3, .int x3), (4, .int x4)] → W p l e (bw_rm 7 182) s m [.ref (b 8 5)].toArray below meth c H locs 0 0 Q (F0 m 108 ls []) := by
    intro d t x3 k94 hk94 n
    induction n with
    | zero => intro H locs ls x1 x4 h; exact bw_none h
    | succ n ih =>
      intro H locs ls x1 x4 h hI hl
      have h : bX5_digest_108 k94 (lX5_digest_108 k94 d t hs cs ln x3 n) d t hs cs ln x3 x1 x4 = some (r, d', t') := h
      unfold bX5_digest_108 at h
      refine lv_iload hx hb dX5_digest_108 (lv_at hl 3 rfl) ?_
      refine lv_iconst (v := 2) hx hb dX5_digest_110 rfl ?_
      refine lv_icmp_gt (tgt := 136) hx hb dX5_digest_111 (by decide) (fun c_111 => ?_) (fun c_111 => ?_)
      · rw [if_pos c_111] at h
        obtain ⟨x3_136, e_136⟩ : ∃ y : Int32, y = x3 + 1 := ⟨_, rfl⟩
        have h := bw_let_e h e_136
        refine lv_iinc (v := x3_136) (lv' := [(3, .int x3_136), (0, .ref (b 8 5)), (1, .long x1), (4, .int x4)]) hx hb dX5_digest_136 hl (k := 2) rfl (by rw [e_136]; rfl) (by decide) rfl (fun ls hl => ?_)
        clear e_136
        refine lv_goto (tgt := 94) hx hb dX5_digest_139 (by decide) ?_
        exact hk94 _ _ _ x1 x3_136 h hI (lv_sub hl [1,2,0] rfl)
      rw [if_neg c_111] at h
      refine lv_lload_n hx hb dX5_digest_114 rfl (lv_at hl 1 rfl) ?_
      refine lv_aload_n hx hb dX5_digest_115 rfl (lv_at hl 0 rfl) ?_
      refine bw_get S hK hI 0 0 rfl rfl (by decide) i_X5 f_X5_12 rfl dX5_digest_116 ?_
      refine lv_iload_n hx hb dX5_digest_119 rfl (lv_at hl 2 rfl) ?_
      refine lv_iload hx hb dX5_digest_120 (lv_at hl 3 rfl) ?_
      obtain ⟨r122, hc, h⟩ := bw_b1_e h
      refine bw_callV S hK hZ hI (mX0_loanPart l G cy g (b 0) (d 0) (d 1) (d 2) (d 3) (d 4) (d 5 0) (d 5 1) x3 x4 r122 hc) Y_X0_loanPart V_X0_loanPart l_X5_186 ⟨(Nat.le_of_ble_eq_true rfl), (Nat.le_of_ble_eq_true rfl)⟩ (q0 := 0) rfl rfl rfl (ws' := (bw_xW cy b d t sl hn hs cs ln rp rn rt)) (bw_px_d cy b d t sl hn hs cs ln rp rn rt) (bw_px_d cy b d t sl hn hs cs ln rp rn rt).symm rfl rfl hl.1 (rest := [.long x1]) (st1 := [.int r122, .long x1]) rfl rfl (Nat.le_of_ble_eq_true rfl) dX5_digest_122 ⟨(Nat.le_of_ble_eq_true rfl), (Nat.le_of_ble_eq_true rfl)⟩ (fun H locs hI => ?_)
      refine lv_i2l hx hb dX5_digest_125 rfl ?_
      obtain ⟨r126, hc, h⟩ := bw_b1_e h
      refine bw_callP S hK hZ hI (mX5_mix l G cy g x1 (Int32.toInt64 r122) r126 hc) Y_X5_mix V_X5_mix l_X5_228 ⟨(Nat.le_of_ble_eq_true rfl), (Nat.le_of_ble_eq_true rfl)⟩ (rest := []) (st1 := [.long r126]) rfl hl.1 rfl rfl (Nat.le_of_ble_eq_true rfl) dX5_digest_126 ⟨(Nat.le_of_ble_eq_true rfl), (Nat.le_of_ble_eq_true rfl)⟩ (fun H locs hI => ?_)
      refine lv_lstore_n (lv' := [(1, .long r126), (0, .ref (b 8 5)), (3, .int x3), (4, .int x4)]) hx hb dX5_digest_129 rfl hl (by decide) rfl (fun ls hl => ?_)
      obtain ⟨x4_130, e_130⟩ : ∃ y : Int32, y = x4 + 1 := ⟨_, rfl⟩
      have h := bw_let_e h e_130
      refine lv_iinc (v := x4_130) (lv' := [(4, .int x4_130), (1, .long r126), (0, .ref (b 8 5)), (3, .int x3)]) hx hb dX5_digest_130 hl (k := 3) rfl (by rw [e_130]; rfl) (by decide) rfl (fun ls hl => ?_)
      clear e_130
      refine lv_goto (tgt := 108) hx hb dX5_digest_133 (by decide) ?_
      exact ih _ _ _ r126 x4_130 h hI (lv_sub hl [2,1,3,0] rfl)
  have l94 : ∀ (d : bw_A2) (t : bw_A2) (n : Nat) (H : Heap) (locs : List Loc) (ls : Array Slot) (x1 : Int64) (x3 : Int32), lX5_digest_94 d t hs cs ln n x1 x3 = some (r, d', t') → bw_I G A s.heap (bw_xW cy b d t sl hn hs cs ln rp rn rt) H locs → lv_has ls 5 [(0, .ref (b 8 5)), (1, .long x1), (3, .int x3)] → W p l e (bw_rm 7 182) s m [.ref (b 8 5)].toArray below meth c H locs 0 0 Q (F0 m 94 ls []) := by
    intro d t n
    induction n with
    | zero => intro H locs ls x1 x3 h; exact bw_none h
    | succ n ih =>
      intro H locs ls x1 x3 h hI hl
      have h : bX5_digest_94  (lX5_digest_94 d t hs cs ln n) d t hs cs ln x1 x3 = some (r, d', t') := h
      unfold bX5_digest_94 at h
      refine lv_iload_n hx hb dX5_digest_94 rfl (lv_at hl 2 rfl) ?_
      refine lv_aload_n hx hb dX5_digest_95 rfl (lv_at hl 0 rfl) ?_
      refine bw_get S hK hI 0 0 rfl rfl (by decide) i_X5 f_X5_12 rfl dX5_digest_96 ?_
      obtain ⟨r99, hc, h⟩ := bw_b1_e h
      refine bw_callV S hK hZ hI (mX0_loans l G cy g (b 0) (d 0) (d 1) (d 2) (d 3) (d 4) (d 5 0) (d 5 1) r99 hc) Y_X0_loans V_X0_loans l_X5_179 ⟨(Nat.le_of_ble_eq_true rfl), (Nat.le_of_ble_eq_true rfl)⟩ (q0 := 0) rfl rfl rfl (ws' := (bw_xW cy b d t sl hn hs cs ln rp rn rt)) (bw_px_d cy b d t sl hn hs cs ln rp rn rt) (bw_px_d cy b d t sl hn hs cs ln rp rn rt).symm rfl rfl hl.1 (rest := [.int x3]) (st1 := [.int r99, .int x3]) rfl rfl (Nat.le_of_ble_eq_true rfl) dX5_digest_99 ⟨(Nat.le_of_ble_eq_true rfl), (Nat.le_of_ble_eq_true rfl)⟩ (fun H locs hI => ?_)
      refine lv_icmp_ge (tgt := 142) hx hb dX5_digest_102 (by decide) (fun c_102 => ?_) (fun c_102 => ?_)
      · rw [if_pos c_102] at h
        refine lv_lload_n hx hb dX5_digest_142 rfl (lv_at hl 1 rfl) ?_
        refine lv_aload_n hx hb dX5_digest_143 rfl (lv_at hl 0 rfl) ?_
        refine bw_get S hK hI 0 0 rfl rfl (by decide) i_X5 f_X5_12 rfl dX5_digest_144 ?_
        obtain ⟨r147, hc, h⟩ := bw_b1_e h
        refine bw_callV S hK hZ hI (mX0_weakestProject l G cy g (b 0) (d 0) (d 1) (d 2) (d 3) (d 4) (d 5 0) (d 5 1) r147 hc) Y_X0_weakestProject V_X0_weakestProject l_X5_214 ⟨(Nat.le_of_ble_eq_true rfl), (Nat.le_of_ble_eq_true rfl)⟩ (q0 := 0) rfl rfl rfl (ws' := (bw_xW cy b d t sl hn hs cs ln rp rn rt)) (bw_px_d cy b d t sl hn hs cs ln rp rn rt) (bw_px_d cy b d t sl hn hs cs ln rp rn rt).symm rfl rfl hl.1 (rest := [.long x1]) (st1 := [.int r147, .long x1]) rfl rfl (Nat.le_of_ble_eq_true rfl) dX5_digest_147 ⟨(Nat.le_of_ble_eq_true rfl), (Nat.le_of_ble_eq_true rfl)⟩ (fun H locs hI => ?_)
        refine lv_i2l hx hb dX5_digest_150 rfl ?_
        obtain ⟨r151, hc, h⟩ := bw_b1_e h
        refine bw_callP S hK hZ hI (mX5_mix l G cy g x1 (Int32.toInt64 r147) r151 hc) Y_X5_mix V_X5_mix l_X5_228 ⟨(Nat.le_of_ble_eq_true rfl), (Nat.le_of_ble_eq_true rfl)⟩ (rest := []) (st1 := [.long r151]) rfl hl.1 rfl rfl (Nat.le_of_ble_eq_true rfl) dX5_digest_151 ⟨(Nat.le_of_ble_eq_true rfl), (Nat.le_of_ble_eq_true rfl)⟩ (fun H locs hI => ?_)
        refine lv_lstore_n (lv' := [(1, .long r151), (0, .ref (b 8 5)), (3, .int x3)]) hx hb dX5_digest_154 rfl hl (by decide) rfl (fun ls hl => ?_)
        refine lv_lload_n hx hb dX5_digest_155 rfl (lv_at hl 0 rfl) ?_
        refine lv_aload_n hx hb dX5_digest_156 rfl (lv_at hl 1 rfl) ?_
        obtain ⟨r157, hc, h⟩ := bw_b1_e h
        refine bw_callV S hK hZ hI (mX5_lateShare l G cy g b d t sl hn hs cs ln rp rn rt r157 hc) Y_X5_lateShare V_X5_lateShare l_X5_243 ⟨(Nat.le_of_ble_eq_true rfl), (Nat.le_of_ble_eq_true rfl)⟩ (q0 := 0) rfl rfl rfl (ws' := (bw_xW cy b d t sl hn hs cs ln rp rn rt)) (bw_pS _) (bw_pS' _) rfl rfl hl.1 (rest := [.long r151]) (st1 := [.double r157, .long r151]) rfl rfl (Nat.le_of_ble_eq_true rfl) dX5_digest_157 ⟨(Nat.le_of_ble_eq_true rfl), (Nat.le_of_ble_eq_true rfl)⟩ (fun H locs hI => ?_)
        obtain ⟨r160, hc, h⟩ := bw_b1_e h
        refine bw_callP S hK hZ hI (mX5_bitsOfShare l G cy g r157 r160 hc) Y_X5_bitsOfShare V_X5_bitsOfShare l_X5_247 ⟨(Nat.le_of_ble_eq_true rfl), (Nat.le_of_ble_eq_true rfl)⟩ (rest := [.long r151]) (st1 := [.long r160, .long r151]) rfl hl.1 rfl rfl (Nat.le_of_ble_eq_true rfl) dX5_digest_160 ⟨(Nat.le_of_ble_eq_true rfl), (Nat.le_of_ble_eq_true rfl)⟩ (fun H locs hI => ?_)
        obtain ⟨r163, hc, h⟩ := bw_b1_e h
        refine bw_callP S hK hZ hI (mX5_mix l G cy g r151 r160 r163 hc) Y_X5_mix V_X5_mix l_X5_228 ⟨(Nat.le_of_ble_eq_true rfl), (Nat.le_of_ble_eq_true rfl)⟩ (rest := []) (st1 := [.long r163]) rfl hl.1 rfl rfl (Nat.le_of_ble_eq_true rfl) dX5_digest_163 ⟨(Nat.le_of_ble_eq_true rfl), (Nat.le_of_ble_eq_true rfl)⟩ (fun H locs hI => ?_)
        refine lv_lstore_n (lv' := [(1, .long r163), (0, .ref (b 8 5)), (3, .int x3)]) hx hb dX5_digest_166 rfl hl (by decide) rfl (fun ls hl => ?_)
        refine lv_lload_n hx hb dX5_digest_167 rfl (lv_at hl 0 rfl) ?_
        refine lv_aload_n hx hb dX5_digest_168 rfl (lv_at hl 1 rfl) ?_
        refine bw_get S hK hI 0 3 rfl rfl (by decide) i_X5 f_X5_29 rfl dX5_digest_169 ?_
        obtain ⟨r172, hc, h⟩ := bw_b1_e h
        refine bw_callV S hK hZ hI (mX4_length l G cy g (b 8 2) (b 8 3) (b 8 4) cs ln rp rn rt r172 hc) Y_X4_length V_X4_length l_X5_134 ⟨(Nat.le_of_ble_eq_true rfl), (Nat.le_of_ble_eq_true rfl)⟩ (q0 := 0) rfl rfl rfl (ws' := (bw_xW cy b d t sl hn hs cs ln rp rn rt)) (bw_px_x cy b d t sl hn hs cs ln rp rn rt) (bw_px_x cy b d t sl hn hs cs ln rp rn rt).symm rfl rfl hl.1 (rest := [.long r163]) (st1 := [.int r172, .long r163]) rfl rfl (Nat.le_of_ble_eq_true rfl) dX5_digest_172 ⟨(Nat.le_of_ble_eq_true rfl), (Nat.le_of_ble_eq_true rfl)⟩ (fun H locs hI => ?_)
        refine lv_i2l hx hb dX5_digest_175 rfl ?_
        obtain ⟨r176, hc, h⟩ := bw_b1_e h
        refine bw_callP S hK hZ hI (mX5_mix l G cy g r163 (Int32.toInt64 r172) r176 hc) Y_X5_mix V_X5_mix l_X5_228 ⟨(Nat.le_of_ble_eq_true rfl), (Nat.le_of_ble_eq_true rfl)⟩ (rest := []) (st1 := [.long r176]) rfl hl.1 rfl rfl (Nat.le_of_ble_eq_true rfl) dX5_digest_176 ⟨(Nat.le_of_ble_eq_true rfl), (Nat.le_of_ble_eq_true rfl)⟩ (fun H locs hI => ?_)
        refine lv_lstore_n (lv' := [(1, .long r176), (0, .ref (b 8 5)), (3, .int x3)]) hx hb dX5_digest_179 rfl hl (by decide) rfl (fun ls hl => ?_)
        refine lv_iconst (v := 0) hx hb dX5_digest_180 rfl ?_
        refine lv_istore_n (lv' := [(3, .int 0), (1, .long r176), (0, .ref (b 8 5))]) hx hb dX5_digest_181 rfl hl (by decide) rfl (fun ls hl => ?_)
        exact l182 d t bw_fu _ _ _ r176 0 h hI (lv_sub hl [2,1,0] rfl)
      rw [if_neg c_102] at h
      refine lv_iconst (v := 0) hx hb dX5_digest_105 rfl ?_
      refine lv_istore (lv' := [(4, .int 0), (0, .ref (b 8 5)), (1, .long x1), (3, .int x3)]) hx hb dX5_digest_106 hl (by decide) rfl (fun ls hl => ?_)
      exact l108 d t x3 (lX5_digest_94 d t hs cs ln n) ih bw_fu _ _ _ x1 0 h hI (lv_sub hl [1,2,3,0] rfl)
  have l61 : ∀  (n : Nat) (H : Heap) (locs : List Loc) (ls : Array Slot) (d : bw_A2) (t : bw_A2) (x1 : Int64) (x3 : Int32), lX5_digest_61 hs cs ln n d t x1 x3 = some (r, d', t') → bw_I G A s.heap (bw_xW cy b d t sl hn hs cs ln rp rn rt) H locs → lv_has ls 5 [(0, .ref (b 8 5)), (1, .long x1), (3, .int x3)] → W p l e (bw_rm 7 182) s m [.ref (b 8 5)].toArray below meth c H locs 0 0 Q (F0 m 61 ls []) := by
    intro  n
    induction n with
    | zero => intro H locs ls d t x1 x3 h; exact bw_none h
    | succ n ih =>
      intro H locs ls d t x1 x3 h hI hl
      have h : bX5_digest_61  (lX5_digest_61 hs cs ln n) hs cs ln d t x1 x3 = some (r, d', t') := h
      unfold bX5_digest_61 at h
      refine lv_iload_n hx hb dX5_digest_61 rfl (lv_at hl 2 rfl) ?_
      refine lv_aload_n hx hb dX5_digest_62 rfl (lv_at hl 0 rfl) ?_
      refine bw_get S hK hI 0 0 rfl rfl (by decide) i_X5 f_X5_12 rfl dX5_digest_63 ?_
      obtain ⟨r66, hc, h⟩ := bw_b1_e h
      refine bw_callV S hK hZ hI (mX0_projects l G cy g (b 0) (d 0) (d 1) (d 2) (d 3) (d 4) (d 5 0) (d 5 1) r66 hc) Y_X0_projects V_X0_projects l_X5_44 ⟨(Nat.le_of_ble_eq_true rfl), (Nat.le_of_ble_eq_true rfl)⟩ (q0 := 0) rfl rfl rfl (ws' := (bw_xW cy b d t sl hn hs cs ln rp rn rt)) (bw_px_d cy b d t sl hn hs cs ln rp rn rt) (bw_px_d cy b d t sl hn hs cs ln rp rn rt).symm rfl rfl hl.1 (rest := [.int x3]) (st1 := [.int r66, .int x3]) rfl rfl (Nat.le_of_ble_eq_true rfl) dX5_digest_66 ⟨(Nat.le_of_ble_eq_true rfl), (Nat.le_of_ble_eq_true rfl)⟩ (fun H locs hI => ?_)
      refine lv_icmp_ge (tgt := 92) hx hb dX5_digest_69 (by decide) (fun c_69 => ?_) (fun c_69 => ?_)
      · rw [if_pos c_69] at h
        refine lv_iconst (v := 0) hx hb dX5_digest_92 rfl ?_
        refine lv_istore_n (lv' := [(3, .int 0), (0, .ref (b 8 5)), (1, .long x1)]) hx hb dX5_digest_93 rfl hl (by decide) rfl (fun ls hl => ?_)
        exact l94 d t bw_fu _ _ _ x1 0 h hI (lv_sub hl [1,2,0] rfl)
      rw [if_neg c_69] at h
      refine lv_aload_n hx hb dX5_digest_72 rfl (lv_at hl 0 rfl) ?_
      refine lv_lload_n hx hb dX5_digest_73 rfl (lv_at hl 1 rfl) ?_
      refine lv_iload_n hx hb dX5_digest_74 rfl (lv_at hl 2 rfl) ?_
      obtain ⟨r75, d_75, hc, h⟩ := bw_b2_e h
      refine bw_callV S hK hZ hI (mX5_mixWhatIs l G cy g b d t sl hn hs cs ln rp rn rt x1 x3 r75 d_75 hc) Y_X5_mixWhatIs V_X5_mixWhatIs l_X5_236 ⟨(Nat.le_of_ble_eq_true rfl), (Nat.le_of_ble_eq_true rfl)⟩ (q0 := 0) rfl rfl rfl (ws' := (bw_xW cy b d_75 t sl hn hs cs ln rp rn rt)) (bw_pS _) (bw_pS' _) rfl rfl hl.1 (rest := []) (st1 := [.long r75]) rfl rfl (Nat.le_of_ble_eq_true rfl) dX5_digest_75 ⟨(Nat.le_of_ble_eq_true rfl), (Nat.le_of_ble_eq_true rfl)⟩ (fun H locs hI => ?_)
      refine lv_lstore_n (lv' := [(1, .long r75), (0, .ref (b 8 5)), (3, .int x3)]) hx hb dX5_digest_78 rfl hl (by decide) rfl (fun ls hl => ?_)
      refine lv_aload_n hx hb dX5_digest_79 rfl (lv_at hl 1 rfl) ?_
      refine lv_lload_n hx hb dX5_digest_80 rfl (lv_at hl 0 rfl) ?_
      refine lv_iload_n hx hb dX5_digest_81 rfl (lv_at hl 2 rfl) ?_
      obtain ⟨r82, t_82, hc, h⟩ := bw_b2_e h
      refine bw_callV S hK hZ hI (mX5_mixWhatWouldBe l G cy g b d_75 t sl hn hs cs ln rp rn rt r75 x3 r82 t_82 hc) Y_X5_mixWhatWouldBe V_X5_mixWhatWouldBe l_X5_240 ⟨(Nat.le_of_ble_eq_true rfl), (Nat.le_of_ble_eq_true rfl)⟩ (q0 := 0) rfl rfl rfl (ws' := (bw_xW cy b d_75 t_82 sl hn hs cs ln rp rn rt)) (bw_pS _) (bw_pS' _) rfl rfl hl.1 (rest := []) (st1 := [.long r82]) rfl rfl (Nat.le_of_ble_eq_true rfl) dX5_digest_82 ⟨(Nat.le_of_ble_eq_true rfl), (Nat.le_of_ble_eq_true rfl)⟩ (fun H locs hI => ?_)
      refine lv_lstore_n (lv' := [(1, .long r82), (0, .ref (b 8 5)), (3, .int x3)]) hx hb dX5_digest_85 rfl hl (by decide) rfl (fun ls hl => ?_)
      obtain ⟨x3_86, e_86⟩ : ∃ y : Int32, y = x3 + 1 := ⟨_, rfl⟩
      have h := bw_let_e h e_86
      refine lv_iinc (v := x3_86) (lv' := [(3, .int x3_86), (1, .long r82), (0, .ref (b 8 5))]) hx hb dX5_digest_86 hl (k := 2) rfl (by rw [e_86]; rfl) (by decide) rfl (fun ls hl => ?_)
      clear e_86
      refine lv_goto (tgt := 61) hx hb dX5_digest_89 (by decide) ?_
      exact ih _ _ _ d_75 t_82 r82 x3_86 h hI (lv_sub hl [2,1,0] rfl)
  have l31 : ∀ (d : bw_A2) (t : bw_A2) (n : Nat) (H : Heap) (locs : List Loc) (ls : Array Slot) (x1 : Int64) (x3 : Int32), lX5_digest_31 d t hs cs ln n x1 x3 = some (r, d', t') → bw_I G A s.heap (bw_xW cy b d t sl hn hs cs ln rp rn rt) H locs → lv_has ls 5 [(0, .ref (b 8 5)), (1, .long x1), (3, .int x3)] → W p l e (bw_rm 7 182) s m [.ref (b 8 5)].toArray below meth c H locs 0 0 Q (F0 m 31 ls []) := by
    intro d t n
    induction n with
    | zero => intro H locs ls x1 x3 h; exact bw_none h
    | succ n ih =>
      intro H locs ls x1 x3 h hI hl
      have h : bX5_digest_31  (lX5_digest_31 d t hs cs ln n) d t hs cs ln x1 x3 = some (r, d', t') := h
      unfold bX5_digest_31 at h
      refine lv_iload_n hx hb dX5_digest_31 rfl (lv_at hl 2 rfl) ?_
      refine bw_gets S hZ hI f_X5_232 dX5_digest_32 ?_
      refine bw_slen hx hb hZ hI dX5_digest_35 ?_
      refine lv_icmp_ge (tgt := 59) hx hb dX5_digest_36 (by decide) (fun c_36 => ?_) (fun c_36 => ?_)
      · rw [if_pos c_36] at h
        refine lv_iconst (v := 0) hx hb dX5_digest_59 rfl ?_
        refine lv_istore_n (lv' := [(3, .int 0), (0, .ref (b 8 5)), (1, .long x1)]) hx hb dX5_digest_60 rfl hl (by decide) rfl (fun ls hl => ?_)
        exact l61  bw_fu _ _ _ d t x1 0 h hI (lv_sub hl [1,2,0] rfl)
      rw [if_neg c_36] at h
      refine lv_lload_n hx hb dX5_digest_39 rfl (lv_at hl 1 rfl) ?_
      refine lv_aload_n hx hb dX5_digest_40 rfl (lv_at hl 0 rfl) ?_
      refine bw_get S hK hI 0 0 rfl rfl (by decide) i_X5 f_X5_12 rfl dX5_digest_41 ?_
      refine lv_iload_n hx hb dX5_digest_44 rfl (lv_at hl 2 rfl) ?_
      obtain ⟨r45, hc, h⟩ := bw_b1_e h
      refine bw_callV S hK hZ hI (mX0_valueOf l G cy g (b 0) (d 0) (d 1) (d 2) (d 3) (d 4) (d 5 0) (d 5 1) x3 r45 hc) Y_X0_valueOf V_X0_valueOf l_X5_199 ⟨(Nat.le_of_ble_eq_true rfl), (Nat.le_of_ble_eq_true rfl)⟩ (q0 := 0) rfl rfl rfl (ws' := (bw_xW cy b d t sl hn hs cs ln rp rn rt)) (bw_px_d cy b d t sl hn hs cs ln rp rn rt) (bw_px_d cy b d t sl hn hs cs ln rp rn rt).symm rfl rfl hl.1 (rest := [.long x1]) (st1 := [.int r45, .long x1]) rfl rfl (Nat.le_of_ble_eq_true rfl) dX5_digest_45 ⟨(Nat.le_of_ble_eq_true rfl), (Nat.le_of_ble_eq_true rfl)⟩ (fun H locs hI => ?_)
      refine lv_i2l hx hb dX5_digest_48 rfl ?_
      obtain ⟨r49, hc, h⟩ := bw_b1_e h
      refine bw_callP S hK hZ hI (mX5_mix l G cy g x1 (Int32.toInt64 r45) r49 hc) Y_X5_mix V_X5_mix l_X5_228 ⟨(Nat.le_of_ble_eq_true rfl), (Nat.le_of_ble_eq_true rfl)⟩ (rest := []) (st1 := [.long r49]) rfl hl.1 rfl rfl (Nat.le_of_ble_eq_true rfl) dX5_digest_49 ⟨(Nat.le_of_ble_eq_true rfl), (Nat.le_of_ble_eq_true rfl)⟩ (fun H locs hI => ?_)
      refine lv_lstore_n (lv' := [(1, .long r49), (0, .ref (b 8 5)), (3, .int x3)]) hx hb dX5_digest_52 rfl hl (by decide) rfl (fun ls hl => ?_)
      obtain ⟨x3_53, e_53⟩ : ∃ y : Int32, y = x3 + 1 := ⟨_, rfl⟩
      have h := bw_let_e h e_53
      refine lv_iinc (v := x3_53) (lv' := [(3, .int x3_53), (1, .long r49), (0, .ref (b 8 5))]) hx hb dX5_digest_53 hl (k := 2) rfl (by rw [e_53]; rfl) (by decide) rfl (fun ls hl => ?_)
      clear e_53
      refine lv_goto (tgt := 31) hx hb dX5_digest_56 (by decide) ?_
      exact ih _ _ _ r49 x3_53 h hI (lv_sub hl [2,1,0] rfl)
  have l6 : ∀ (d : bw_A2) (t : bw_A2) (n : Nat) (H : Heap) (locs : List Loc) (ls : Array Slot) (x1 : Int64) (x3 : Int32), lX5_digest_6 d t hs cs ln n x1 x3 = some (r, d', t') → bw_I G A s.heap (bw_xW cy b d t sl hn hs cs ln rp rn rt) H locs → lv_has ls 5 [(0, .ref (b 8 5)), (1, .long x1), (3, .int x3)] → W p l e (bw_rm 7 182) s m [.ref (b 8 5)].toArray below meth c H locs 0 0 Q (F0 m 6 ls []) := by
    intro d t n
    induction n with
    | zero => intro H locs ls x1 x3 h; exact bw_none h
    | succ n ih =>
      intro H locs ls x1 x3 h hI hl
      have h : bX5_digest_6  (lX5_digest_6 d t hs cs ln n) d t hs cs ln x1 x3 = some (r, d', t') := h
      unfold bX5_digest_6 at h
      refine lv_iload_n hx hb dX5_digest_6 rfl (lv_at hl 2 rfl) ?_
      refine lv_bipush (v := 9) hx hb dX5_digest_7 (by decide) ?_
      refine lv_icmp_gt (tgt := 29) hx hb dX5_digest_9 (by decide) (fun c_9 => ?_) (fun c_9 => ?_)
      · rw [if_pos c_9] at h
        refine lv_iconst (v := 0) hx hb dX5_digest_29 rfl ?_
        refine lv_istore_n (lv' := [(3, .int 0), (0, .ref (b 8 5)), (1, .long x1)]) hx hb dX5_digest_30 rfl hl (by decide) rfl (fun ls hl => ?_)
        exact l31 d t bw_fu _ _ _ x1 0 h hI (lv_sub hl [1,2,0] rfl)
      rw [if_neg c_9] at h
      refine lv_lload_n hx hb dX5_digest_12 rfl (lv_at hl 1 rfl) ?_
      refine lv_aload_n hx hb dX5_digest_13 rfl (lv_at hl 0 rfl) ?_
      refine lv_iload_n hx hb dX5_digest_14 rfl (lv_at hl 2 rfl) ?_
      obtain ⟨r15, hc, h⟩ := bw_b1_e h
      refine bw_callV S hK hZ hI (mX5_numberOf l G cy g b d t sl hn hs cs ln rp rn rt x3 r15 hc) Y_X5_numberOf V_X5_numberOf l_X5_196 ⟨(Nat.le_of_ble_eq_true rfl), (Nat.le_of_ble_eq_true rfl)⟩ (q0 := 0) rfl rfl rfl (ws' := (bw_xW cy b d t sl hn hs cs ln rp rn rt)) (bw_pS _) (bw_pS' _) rfl rfl hl.1 (rest := [.long x1]) (st1 := [.int r15, .long x1]) rfl rfl (Nat.le_of_ble_eq_true rfl) dX5_digest_15 ⟨(Nat.le_of_ble_eq_true rfl), (Nat.le_of_ble_eq_true rfl)⟩ (fun H locs hI => ?_)
      refine lv_i2l hx hb dX5_digest_18 rfl ?_
      obtain ⟨r19, hc, h⟩ := bw_b1_e h
      refine bw_callP S hK hZ hI (mX5_mix l G cy g x1 (Int32.toInt64 r15) r19 hc) Y_X5_mix V_X5_mix l_X5_228 ⟨(Nat.le_of_ble_eq_true rfl), (Nat.le_of_ble_eq_true rfl)⟩ (rest := []) (st1 := [.long r19]) rfl hl.1 rfl rfl (Nat.le_of_ble_eq_true rfl) dX5_digest_19 ⟨(Nat.le_of_ble_eq_true rfl), (Nat.le_of_ble_eq_true rfl)⟩ (fun H locs hI => ?_)
      refine lv_lstore_n (lv' := [(1, .long r19), (0, .ref (b 8 5)), (3, .int x3)]) hx hb dX5_digest_22 rfl hl (by decide) rfl (fun ls hl => ?_)
      obtain ⟨x3_23, e_23⟩ : ∃ y : Int32, y = x3 + 1 := ⟨_, rfl⟩
      have h := bw_let_e h e_23
      refine lv_iinc (v := x3_23) (lv' := [(3, .int x3_23), (1, .long r19), (0, .ref (b 8 5))]) hx hb dX5_digest_23 hl (k := 2) rfl (by rw [e_23]; rfl) (by decide) rfl (fun ls hl => ?_)
      clear e_23
      refine lv_goto (tgt := 6) hx hb dX5_digest_26 (by decide) ?_
      exact ih _ _ _ r19 x3_23 h hI (lv_sub hl [2,1,0] rfl)
  unfold fX5_digest at h
  refine lv_ldc2 hx hb hown (hts _ (List.mem_cons_of_mem _ k_X5_226)) dX5_digest_0 ?_
  refine lv_lstore_n (lv' := [(1, .long 2473), (0, .ref (b 8 5))]) hx hb dX5_digest_3 rfl hl (by decide) rfl (fun ls hl => ?_)
  refine lv_iconst (v := 0) hx hb dX5_digest_4 rfl ?_
  refine lv_istore_n (lv' := [(3, .int 0), (1, .long 2473), (0, .ref (b 8 5))]) hx hb dX5_digest_5 rfl hl (by decide) rfl (fun ls hl => ?_)
  exact l6 d t bw_fu _ _ _ 2473 0 h hI (lv_sub hl [2,1,0] rfl)
