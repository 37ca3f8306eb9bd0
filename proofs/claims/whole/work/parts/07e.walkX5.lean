set_option maxHeartbeats 4000000 in
set_option maxRecDepth 100000 in
theorem mX5_isOutside (l : Launch) (G : va_G) (cy : Nat → ClassId) (g : Nat) (p0 : Int32) (p1 : Int32) (p2 : Int32) (r : Int32) (h : fX5_isOutside p0 p1 p2 = some r) : bw_M l yX5_isOutside cX5_isOutside 3 (some .boolean) 0 0 G cy g [.int p0, .int p1, .int p2] [] (some (.int r)) [] := by
  refine bw_ofW (by decide +kernel) RX5 rfl (Nat.le_of_ble_eq_true rfl) ?_
  intro p e s m below meth c ls S hr hlocks hK hZ hI hl
  have hx := S.1
  have hb := S.2.1
  have hown := S.2.2.2.1
  have hts := S.2.2.2.2
  generalize va_A _ s.heap.size = A at hI hZ ⊢
  generalize hQ : MQ below _ _ s 0 0 A = Q
  have hl : lv_has ls 3 [(0, .int p0), (1, .int p1), (2, .int p2)] := hl
  have j10 : ∀  (H : Heap) (locs : List Loc) (ls : Array Slot), jX5_isOutside_10  = some r → bw_I G A s.heap [] H locs → lv_has ls 3 [] → W p l e (bw_rm 0 0) s m [.int p0, .int p1, .int p2].toArray below meth c H locs 0 0 Q (F0 m 10 ls []) := by
    intro  H locs ls h hI hl
    unfold jX5_isOutside_10 at h
    refine lv_iconst (v := 1) hx hb dX5_isOutside_10 rfl ?_
    refine lv_goto (tgt := 15) hx hb dX5_isOutside_11 (by decide) ?_
    exact bw_iretP S hr hlocks h hI rfl dX5_isOutside_15 hQ
  unfold fX5_isOutside at h
  refine lv_iload_n hx hb dX5_isOutside_0 rfl (lv_at hl 0 rfl) ?_
  refine lv_iload_n hx hb dX5_isOutside_1 rfl (lv_at hl 1 rfl) ?_
  refine lv_icmp_lt (tgt := 10) hx hb dX5_isOutside_2 (by decide) (fun c_2 => ?_) (fun c_2 => ?_)
  · rw [if_pos c_2] at h
    exact j10  _ _ _ h hI (lv_sub hl [] rfl)
  rw [if_neg c_2] at h
  refine lv_iload_n hx hb dX5_isOutside_5 rfl (lv_at hl 0 rfl) ?_
  refine lv_iload_n hx hb dX5_isOutside_6 rfl (lv_at hl 2 rfl) ?_
  refine lv_icmp_le (tgt := 14) hx hb dX5_isOutside_7 (by decide) (fun c_7 => ?_) (fun c_7 => ?_)
  · rw [if_pos c_7] at h
    refine lv_iconst (v := 0) hx hb dX5_isOutside_14 rfl ?_
    exact bw_iretP S hr hlocks h hI rfl dX5_isOutside_15 hQ
  rw [if_neg c_7] at h
  exact j10  _ _ _ h hI (lv_sub hl [] rfl)
set_option maxHeartbeats 4000000 in
set_option maxRecDepth 100000 in
theorem mX5_clearBuffer (l : Launch) (G : va_G) (cy : Nat → ClassId) (g : Nat) (b : Nat → Nat → Nat) (d : bw_A2) (t : bw_A2) (sl : bw_A3) (hn : Int32) (hs : Int32) (cs : bw_A1) (ln : Int32) (rp : Int32) (rn : Int32) (rt : Int32) (r : Int32) (ln' : Int32) (h : fX5_clearBuffer ln = some (r, ln')) : bw_M l yX5_clearBuffer cX5_clearBuffer 2 (some .int) 1 20 G cy g [.ref (b 8 5)] (bw_xW cy b d t sl hn hs cs ln rp rn rt) (some (.int r)) (bw_xW cy b d t sl hn hs cs ln' rp rn rt) := by
  refine bw_ofW (by decide +kernel) RX5 rfl (Nat.le_of_ble_eq_true rfl) ?_
  intro p e s m below meth c ls S hr hlocks hK hZ hI hl
  have hx := S.1
  have hb := S.2.1
  have hown := S.2.2.2.1
  have hts := S.2.2.2.2
  generalize va_A _ s.heap.size = A at hI hZ ⊢
  generalize hQ : MQ below _ _ s 0 0 A = Q
  have hl : lv_has ls 2 [(0, .ref (b 8 5))] := hl
  unfold fX5_clearBuffer at h
  refine lv_aload_n hx hb dX5_clearBuffer_0 rfl (lv_at hl 0 rfl) ?_
  refine bw_get S hK hI 0 3 rfl rfl (by decide) i_X5 f_X5_29 rfl dX5_clearBuffer_1 ?_
  obtain ⟨r4, hc, h⟩ := bw_b1_e h
  refine bw_callV S hK hZ hI (mX4_length l G cy g (b 8 2) (b 8 3) (b 8 4) cs ln rp rn rt r4 hc) Y_X4_length V_X4_length l_X5_134 ⟨(Nat.le_of_ble_eq_true rfl), (Nat.le_of_ble_eq_true rfl)⟩ (q0 := 0) rfl rfl rfl (ws' := (bw_xW cy b d t sl hn hs cs ln rp rn rt)) (bw_px_x cy b d t sl hn hs cs ln rp rn rt) (bw_px_x cy b d t sl hn hs cs ln rp rn rt).symm rfl rfl hl.1 (rest := []) (st1 := [.int r4]) rfl rfl (Nat.le_of_ble_eq_true rfl) dX5_clearBuffer_4 ⟨(Nat.le_of_ble_eq_true rfl), (Nat.le_of_ble_eq_true rfl)⟩ (fun H locs hI => ?_)
  refine lv_istore_n (lv' := [(1, .int r4), (0, .ref (b 8 5))]) hx hb dX5_clearBuffer_7 rfl hl (by decide) rfl (fun ls hl => ?_)
  refine lv_aload_n hx hb dX5_clearBuffer_8 rfl (lv_at hl 1 rfl) ?_
  refine bw_get S hK hI 0 3 rfl rfl (by decide) i_X5 f_X5_29 rfl dX5_clearBuffer_9 ?_
  obtain ⟨ln_12, hc, h⟩ := bw_b1_e h
  refine bw_callV S hK hZ hI (mX4_wipe l G cy g (b 8 2) (b 8 3) (b 8 4) cs ln rp rn rt ln_12 hc) Y_X4_wipe V_X4_wipe l_X5_142 ⟨(Nat.le_of_ble_eq_true rfl), (Nat.le_of_ble_eq_true rfl)⟩ (q0 := 0) rfl rfl rfl (ws' := (bw_xW cy b d t sl hn hs cs ln_12 rp rn rt)) (bw_px_x cy b d t sl hn hs cs ln rp rn rt) (bw_px_x cy b d t sl hn hs cs ln_12 rp rn rt).symm rfl rfl hl.1 (rest := []) (st1 := []) rfl rfl (Nat.le_of_ble_eq_true rfl) dX5_clearBuffer_12 ⟨(Nat.le_of_ble_eq_true rfl), (Nat.le_of_ble_eq_true rfl)⟩ (fun H locs hI => ?_)
  refine lv_iload_n hx hb dX5_clearBuffer_15 rfl (lv_at hl 0 rfl) ?_
  exact bw_iret (d := ln_12) (rr := (r, ln')) S hr hlocks h (fun q : Int32 => (bw_xW cy b d t sl hn hs cs q rp rn rt)) hI rfl dX5_clearBuffer_16 hQ
set_option maxHeartbeats 4000000 in
set_option maxRecDepth 100000 in
theorem mX5_firstError (l : Launch) (G : va_G) (cy : Nat → ClassId) (g : Nat) (b : Nat → Nat → Nat) (d : bw_A2) (t : bw_A2) (sl : bw_A3) (hn : Int32) (hs : Int32) (cs : bw_A1) (ln : Int32) (rp : Int32) (rn : Int32) (rt : Int32) (r : Int32) (rp' : Int32) (rn' : Int32) (rt' : Int32) (h : fX5_firstError cs ln rp rn rt = some (r, rp', rn', rt')) : bw_M l yX5_firstError cX5_firstError 1 (some .int) 4 84 G cy g [.ref (b 8 5)] (bw_xW cy b d t sl hn hs cs ln rp rn rt) (some (.int r)) (bw_xW cy b d t sl hn hs cs ln rp' rn' rt') := by
  refine bw_ofW (by decide +kernel) RX5 rfl (Nat.le_of_ble_eq_true rfl) ?_
  intro p e s m below meth c ls S hr hlocks hK hZ hI hl
  have hx := S.1
  have hb := S.2.1
  have hown := S.2.2.2.1
  have hts := S.2.2.2.2
  generalize va_A _ s.heap.size = A at hI hZ ⊢
  generalize hQ : MQ below _ _ s 0 0 A = Q
  have hl : lv_has ls 1 [(0, .ref (b 8 5))] := hl
  unfold fX5_firstError at h
  refine lv_aload_n hx hb dX5_firstError_0 rfl (lv_at hl 0 rfl) ?_
  refine bw_get S hK hI 0 3 rfl rfl (by decide) i_X5 f_X5_29 rfl dX5_firstError_1 ?_
  obtain ⟨r4, rp_4, rn_4, rt_4, hc, h⟩ := bw_b4_e h
  refine bw_callV S hK hZ hI (mX4_firstFault l G cy g (b 8 2) (b 8 3) (b 8 4) cs ln rp rn rt r4 rp_4 rn_4 rt_4 hc) Y_X4_firstFault V_X4_firstFault l_X5_145 ⟨(Nat.le_of_ble_eq_true rfl), (Nat.le_of_ble_eq_true rfl)⟩ (q0 := 0) rfl rfl rfl (ws' := (bw_xW cy b d t sl hn hs cs ln rp_4 rn_4 rt_4)) (bw_px_x cy b d t sl hn hs cs ln rp rn rt) (bw_px_x cy b d t sl hn hs cs ln rp_4 rn_4 rt_4).symm rfl rfl hl.1 (rest := []) (st1 := [.int r4]) rfl rfl (Nat.le_of_ble_eq_true rfl) dX5_firstError_4 ⟨(Nat.le_of_ble_eq_true rfl), (Nat.le_of_ble_eq_true rfl)⟩ (fun H locs hI => ?_)
  exact bw_iret (d := (rp_4, rn_4, rt_4)) (rr := (r, rp', rn', rt')) S hr hlocks h (fun q : (Int32 × Int32 × Int32) => (bw_xW cy b d t sl hn hs cs ln q.1 q.2.1 q.2.2)) hI rfl dX5_firstError_7 hQ
set_option maxHeartbeats 4000000 in
set_option maxRecDepth 100000 in
theorem mX5_openProjectsOfText (l : Launch) (G : va_G) (cy : Nat → ClassId) (g : Nat) (b : Nat → Nat → Nat) (d : bw_A2) (t : bw_A2) (sl : bw_A3) (hn : Int32) (hs : Int32) (cs : bw_A1) (ln : Int32) (rp : Int32) (rn : Int32) (rt : Int32) (d' : bw_A2) (h : fX5_openProjectsOfText d cs ln = some d') : bw_M l yX5_openProjectsOfText cX5_openProjectsOfText 5 none 2 48 G cy g [.ref (b 8 5)] (bw_xW cy b d t sl hn hs cs ln rp rn rt) none (bw_xW cy b d' t sl hn hs cs ln rp rn rt) := by
  refine bw_ofW (by decide +kernel) RX5 rfl (Nat.le_of_ble_eq_true rfl) ?_
  intro p e s m below meth c ls S hr hlocks hK hZ hI hl
  have hx := S.1
  have hb := S.2.1
  have hown := S.2.2.2.1
  have hts := S.2.2.2.2
  generalize va_A _ s.heap.size = A at hI hZ ⊢
  generalize hQ : MQ below _ _ s 0 0 A = Q
  have hl : lv_has ls 5 [(0, .ref (b 8 5))] := hl
  have j116 : ∀ (d : bw_A2) (x1 : Int32) (x2 : Int32) (x3 : Int32) (k6 : bw_A2 → Int32 → Int32 → Int32 → Option bw_A2) (hk6 : ∀ (H : Heap) (locs : List Loc) (ls : Array Slot) (d_ : bw_A2) (x1_ : Int32) (x2_ : Int32) (x3_ : Int32), k6 d_ x1_ x2_ x3_ = some d' → bw_I G A s.heap (bw_xW cy b d_ t sl hn hs cs ln rp rn rt) H locs → lv_has ls 5 [(0, .ref (b 8 5)), (1, .int x1_), (2, .int x2_), (3, .int x3_)] → W p l e (bw_rm 2 48) s m [.ref (b 8 5)].toArray below meth c H locs 0 0 Q (F0 m 6 ls [])) (H : Heap) (locs : List Loc) (ls : Array Slot), jX5_openProjectsOfText_116 k6 d cs ln x1 x2 x3 = some d' → bw_I G A s.heap (bw_xW cy b d t sl hn hs cs ln rp rn rt) H locs → lv_has ls 5 [(0, .ref (b 8 5)), (1, .int x1), (2, .int x2), (3, .int x3)] → W p l e (bw_rm 2 48) s m [.ref (b 8 5)].toArray below meth c H locs 0 0 Q (F0 m 116 ls []) := by
    intro d x1 x2 x3 k6 hk6 H locs ls h hI hl
    unfold jX5_openProjectsOfText_116 at h
    obtain ⟨x3_116, e_116⟩ : ∃ y : Int32, y = x3 + 1 := ⟨_, rfl⟩
    have h := bw_let_e h e_116
    refine lv_iinc (v := x3_116) (lv' := [(3, .int x3_116), (0, .ref (b 8 5)), (1, .int x1), (2, .int x2)]) hx hb dX5_openProjectsOfText_116 hl (k := 3) rfl (by rw [e_116]; rfl) (by decide) rfl (fun ls hl => ?_)
    clear e_116
    refine lv_goto (tgt := 6) hx hb dX5_openProjectsOfText_119 (by decide) ?_
    exact hk6 _ _ _ d x1 x2 x3_116 h hI (lv_sub hl [1,2,3,0] rfl)
  have j114 : ∀ (d : bw_A2) (x1 : Int32) (x3 : Int32) (k6 : bw_A2 → Int32 → Int32 → Int32 → Option bw_A2) (hk6 : ∀ (H : Heap) (locs : List Loc) (ls : Array Slot) (d_ : bw_A2) (x1_ : Int32) (x2_ : Int32) (x3_ : Int32), k6 d_ x1_ x2_ x3_ = some d' → bw_I G A s.heap (bw_xW cy b d_ t sl hn hs cs ln rp rn rt) H locs → lv_has ls 5 [(0, .ref (b 8 5)), (1, .int x1_), (2, .int x2_), (3, .int x3_)] → W p l e (bw_rm 2 48) s m [.ref (b 8 5)].toArray below meth c H locs 0 0 Q (F0 m 6 ls [])) (H : Heap) (locs : List Loc) (ls : Array Slot), jX5_openProjectsOfText_114 k6 d cs ln x1 x3 = some d' → bw_I G A s.heap (bw_xW cy b d t sl hn hs cs ln rp rn rt) H locs → lv_has ls 5 [(0, .ref (b 8 5)), (1, .int x1), (3, .int x3)] → W p l e (bw_rm 2 48) s m [.ref (b 8 5)].toArray below meth c H locs 0 0 Q (F0 m 114 ls []) := by
    intro d x1 x3 k6 hk6 H locs ls h hI hl
    unfold jX5_openProjectsOfText_114 at h
    refine lv_iconst (v := 0) hx hb dX5_openProjectsOfText_114 rfl ?_
    refine lv_istore_n (lv' := [(2, .int 0), (0, .ref (b 8 5)), (1, .int x1), (3, .int x3)]) hx hb dX5_openProjectsOfText_115 rfl hl (by decide) rfl (fun ls hl => ?_)
    exact j116 d x1 0 x3 k6 hk6 _ _ _ h hI (lv_sub hl [1,2,0,3] rfl)
  have j41 : ∀ (d : bw_A2) (x1 : Int32) (x2 : Int32) (x3 : Int32) (s0 : Int32) (k6 : bw_A2 → Int32 → Int32 → Int32 → Option bw_A2) (hk6 : ∀ (H : Heap) (locs : List Loc) (ls : Array Slot) (d_ : bw_A2) (x1_ : Int32) (x2_ : Int32) (x3_ : Int32), k6 d_ x1_ x2_ x3_ = some d' → bw_I G A s.heap (bw_xW cy b d_ t sl hn hs cs ln rp rn rt) H locs → lv_has ls 5 [(0, .ref (b 8 5)), (1, .int x1_), (2, .int x2_), (3, .int x3_)] → W p l e (bw_rm 2 48) s m [.ref (b 8 5)].toArray below meth c H locs 0 0 Q (F0 m 6 ls [])) (H : Heap) (locs : List Loc) (ls : Array Slot), jX5_openProjectsOfText_41 k6 d cs ln x1 x2 x3 s0 = some d' → bw_I G A s.heap (bw_xW cy b d t sl hn hs cs ln rp rn rt) H locs → lv_has ls 5 [(0, .ref (b 8 5)), (1, .int x1), (2, .int x2), (3, .int x3)] → W p l e (bw_rm 2 48) s m [.ref (b 8 5)].toArray below meth c H locs 0 0 Q (F0 m 41 ls [.int s0]) := by
    intro d x1 x2 x3 s0 k6 hk6 H locs ls h hI hl
    unfold jX5_openProjectsOfText_41 at h
    refine lv_istore (lv' := [(4, .int s0), (0, .ref (b 8 5)), (1, .int x1), (2, .int x2), (3, .int x3)]) hx hb dX5_openProjectsOfText_41 hl (by decide) rfl (fun ls hl => ?_)
    refine lv_iload hx hb dX5_openProjectsOfText_43 (lv_at hl 0 rfl) ?_
    obtain ⟨r45, hc, h⟩ := bw_b1_e h
    refine bw_callP S hK hZ hI (mX2_isDigit l G cy g s0 r45 hc) Y_X2_isDigit V_X2_isDigit l_X5_258 ⟨(Nat.le_of_ble_eq_true rfl), (Nat.le_of_ble_eq_true rfl)⟩ (rest := []) (st1 := [.int r45]) rfl hl.1 rfl rfl (Nat.le_of_ble_eq_true rfl) dX5_openProjectsOfText_45 ⟨(Nat.le_of_ble_eq_true rfl), (Nat.le_of_ble_eq_true rfl)⟩ (fun H locs hI => ?_)
    refine lv_if_eq (tgt := 65) hx hb dX5_openProjectsOfText_48 (by decide) (fun c_48 => ?_) (fun c_48 => ?_)
    · rw [if_pos c_48] at h
      refine lv_iload hx hb dX5_openProjectsOfText_65 (lv_at hl 0 rfl) ?_
      refine lv_bipush (v := 58) hx hb dX5_openProjectsOfText_67 (by decide) ?_
      refine lv_icmp_eq (tgt := 93) hx hb dX5_openProjectsOfText_69 (by decide) (fun c_69 => ?_) (fun c_69 => ?_)
      · rw [if_pos c_69] at h
        refine lv_iload_n hx hb dX5_openProjectsOfText_93 rfl (lv_at hl 2 rfl) ?_
        refine lv_if_ne (tgt := 102) hx hb dX5_openProjectsOfText_94 (by decide) (fun c_94 => ?_) (fun c_94 => ?_)
        · rw [if_neg c_94] at h
          refine lv_aload_n hx hb dX5_openProjectsOfText_102 rfl (lv_at hl 1 rfl) ?_
          refine bw_get S hK hI 0 0 rfl rfl (by decide) i_X5 f_X5_12 rfl dX5_openProjectsOfText_103 ?_
          refine lv_iload_n hx hb dX5_openProjectsOfText_106 rfl (lv_at hl 2 rfl) ?_
          refine lv_iload_n hx hb dX5_openProjectsOfText_107 rfl (lv_at hl 3 rfl) ?_
          obtain ⟨r108, tp_108, np_108, hc, h⟩ := bw_b3_e h
          obtain ⟨d_108, e_108⟩ : ∃ z, z = (va_up (va_up d 0 tp_108) 5 (upd (d 5) 0 np_108)) := ⟨_, rfl⟩
          have h := bw_let_e h e_108
          refine bw_callV S hK hZ hI (mX0_addProject l G cy g (b 0) (d 0) (d 1) (d 2) (d 3) (d 4) (d 5 0) (d 5 1) x1 x2 r108 tp_108 np_108 hc) Y_X0_addProject V_X0_addProject l_X5_57 ⟨(Nat.le_of_ble_eq_true rfl), (Nat.le_of_ble_eq_true rfl)⟩ (q0 := 0) rfl rfl rfl (ws' := (bw_xW cy b d_108 t sl hn hs cs ln rp rn rt)) (bw_px_d cy b d t sl hn hs cs ln rp rn rt) (by rw [e_108]; exact (bw_px_d cy b (va_up (va_up d 0 tp_108) 5 (upd (d 5) 0 np_108)) t sl hn hs cs ln rp rn rt).symm) rfl rfl hl.1 (rest := []) (st1 := [.int r108]) rfl rfl (Nat.le_of_ble_eq_true rfl) dX5_openProjectsOfText_108 ⟨(Nat.le_of_ble_eq_true rfl), (Nat.le_of_ble_eq_true rfl)⟩ (fun H locs hI => ?_)
          clear e_108
          refine lv_pop hx hb dX5_openProjectsOfText_111 rfl ?_
          refine lv_iconst (v := 0) hx hb dX5_openProjectsOfText_112 rfl ?_
          refine lv_istore_n (lv' := [(1, .int 0), (4, .int s0), (0, .ref (b 8 5)), (2, .int x2), (3, .int x3)]) hx hb dX5_openProjectsOfText_113 rfl hl (by decide) rfl (fun ls hl => ?_)
          exact j114 d_108 0 x3 k6 hk6 _ _ _ h hI (lv_sub hl [2,0,4] rfl)
        rw [if_pos c_94] at h
        refine lv_iload_n hx hb dX5_openProjectsOfText_97 rfl (lv_at hl 3 rfl) ?_
        refine lv_istore_n (lv' := [(1, .int x2), (4, .int s0), (0, .ref (b 8 5)), (2, .int x2), (3, .int x3)]) hx hb dX5_openProjectsOfText_98 rfl hl (by decide) rfl (fun ls hl => ?_)
        refine lv_goto (tgt := 114) hx hb dX5_openProjectsOfText_99 (by decide) ?_
        exact j114 d x2 x3 k6 hk6 _ _ _ h hI (lv_sub hl [2,0,4] rfl)
      rw [if_neg c_69] at h
      refine lv_aload_n hx hb dX5_openProjectsOfText_72 rfl (lv_at hl 1 rfl) ?_
      refine bw_get S hK hI 0 0 rfl rfl (by decide) i_X5 f_X5_12 rfl dX5_openProjectsOfText_73 ?_
      refine lv_aload_n hx hb dX5_openProjectsOfText_76 rfl (lv_at hl 1 rfl) ?_
      refine bw_get S hK hI 0 0 rfl rfl (by decide) i_X5 f_X5_12 rfl dX5_openProjectsOfText_77 ?_
      obtain ⟨r80, hc, h⟩ := bw_b1_e h
      refine bw_callV S hK hZ hI (mX0_projects l G cy g (b 0) (d 0) (d 1) (d 2) (d 3) (d 4) (d 5 0) (d 5 1) r80 hc) Y_X0_projects V_X0_projects l_X5_44 ⟨(Nat.le_of_ble_eq_true rfl), (Nat.le_of_ble_eq_true rfl)⟩ (q0 := 0) rfl rfl rfl (ws' := (bw_xW cy b d t sl hn hs cs ln rp rn rt)) (bw_px_d cy b d t sl hn hs cs ln rp rn rt) (bw_px_d cy b d t sl hn hs cs ln rp rn rt).symm rfl rfl hl.1 (rest := [.ref (b 0 0)]) (st1 := [.int r80, .ref (b 0 0)]) rfl rfl (Nat.le_of_ble_eq_true rfl) dX5_openProjectsOfText_80 ⟨(Nat.le_of_ble_eq_true rfl), (Nat.le_of_ble_eq_true rfl)⟩ (fun H locs hI => ?_)
      refine lv_iconst (v := 1) hx hb dX5_openProjectsOfText_83 rfl ?_
      refine lv_isub hx hb dX5_openProjectsOfText_84 ?_
      refine lv_iload_n hx hb dX5_openProjectsOfText_85 rfl (lv_at hl 3 rfl) ?_
      obtain ⟨r86, tp_86, tk_86, hc, h⟩ := bw_b3_e h
      obtain ⟨d_86, e_86⟩ : ∃ z, z = (va_up (va_up d 0 tp_86) 1 tk_86) := ⟨_, rfl⟩
      have h := bw_let_e h e_86
      refine bw_callV S hK hZ hI (mX0_addTask l G cy g (b 0) (d 0) (d 1) (d 2) (d 3) (d 4) (d 5 0) (d 5 1) (r80 - 1) x2 r86 tp_86 tk_86 hc) Y_X0_addTask V_X0_addTask l_X5_76 ⟨(Nat.le_of_ble_eq_true rfl), (Nat.le_of_ble_eq_true rfl)⟩ (q0 := 0) rfl rfl rfl (ws' := (bw_xW cy b d_86 t sl hn hs cs ln rp rn rt)) (bw_px_d cy b d t sl hn hs cs ln rp rn rt) (by rw [e_86]; exact (bw_px_d cy b (va_up (va_up d 0 tp_86) 1 tk_86) t sl hn hs cs ln rp rn rt).symm) rfl rfl hl.1 (rest := []) (st1 := [.int r86]) rfl rfl (Nat.le_of_ble_eq_true rfl) dX5_openProjectsOfText_86 ⟨(Nat.le_of_ble_eq_true rfl), (Nat.le_of_ble_eq_true rfl)⟩ (fun H locs hI => ?_)
      clear e_86
      refine lv_pop hx hb dX5_openProjectsOfText_89 rfl ?_
      refine lv_goto (tgt := 114) hx hb dX5_openProjectsOfText_90 (by decide) ?_
      exact j114 d_86 x1 x3 k6 hk6 _ _ _ h hI (lv_sub hl [1,2,4] rfl)
    rw [if_neg c_48] at h
    refine lv_iload_n hx hb dX5_openProjectsOfText_51 rfl (lv_at hl 3 rfl) ?_
    refine lv_bipush (v := 10) hx hb dX5_openProjectsOfText_52 (by decide) ?_
    refine lv_imul hx hb dX5_openProjectsOfText_54 ?_
    refine lv_iload hx hb dX5_openProjectsOfText_55 (lv_at hl 0 rfl) ?_
    refine lv_bipush (v := 48) hx hb dX5_openProjectsOfText_57 (by decide) ?_
    refine lv_isub hx hb dX5_openProjectsOfText_59 ?_
    refine lv_iadd hx hb dX5_openProjectsOfText_60 ?_
    refine lv_topi (fun x2_61 e_61 => ?_)
    have h := bw_let_e h e_61
    clear e_61
    refine lv_istore_n (lv' := [(2, .int x2_61), (4, .int s0), (0, .ref (b 8 5)), (1, .int x1), (3, .int x3)]) hx hb dX5_openProjectsOfText_61 rfl hl (by decide) rfl (fun ls hl => ?_)
    refine lv_goto (tgt := 116) hx hb dX5_openProjectsOfText_62 (by decide) ?_
    exact j116 d x1 x2_61 x3 k6 hk6 _ _ _ h hI (lv_sub hl [2,3,0,4] rfl)
  have l6 : ∀  (n : Nat) (H : Heap) (locs : List Loc) (ls : Array Slot) (d : bw_A2) (x1 : Int32) (x2 : Int32) (x3 : Int32), lX5_openProjectsOfText_6 cs ln n d x1 x2 x3 = some d' → bw_I G A s.heap (bw_xW cy b d t sl hn hs cs ln rp rn rt) H locs → lv_has ls 5 [(0, .ref (b 8 5)), (1, .int x1), (2, .int x2), (3, .int x3)] → W p l e (bw_rm 2 48) s m [.ref (b 8 5)].toArray below meth c H locs 0 0 Q (F0 m 6 ls []) := by
    intro  n
    induction n with
    | zero => intro H locs ls d x1 x2 x3 h; exact bw_none h
    | succ n ih =>
      intro H locs ls d x1 x2 x3 h hI hl
      have h : bX5_openProjectsOfText_6  (lX5_openProjectsOfText_6 cs ln n) cs ln d x1 x2 x3 = some d' := h
      unfold bX5_openProjectsOfText_6 at h
      refine lv_iload_n hx hb dX5_openProjectsOfText_6 rfl (lv_at hl 3 rfl) ?_
      refine lv_aload_n hx hb dX5_openProjectsOfText_7 rfl (lv_at hl 0 rfl) ?_
      refine bw_get S hK hI 0 3 rfl rfl (by decide) i_X5 f_X5_29 rfl dX5_openProjectsOfText_8 ?_
      obtain ⟨r11, hc, h⟩ := bw_b1_e h
      refine bw_callV S hK hZ hI (mX4_length l G cy g (b 8 2) (b 8 3) (b 8 4) cs ln rp rn rt r11 hc) Y_X4_length V_X4_length l_X5_134 ⟨(Nat.le_of_ble_eq_true rfl), (Nat.le_of_ble_eq_true rfl)⟩ (q0 := 0) rfl rfl rfl (ws' := (bw_xW cy b d t sl hn hs cs ln rp rn rt)) (bw_px_x cy b d t sl hn hs cs ln rp rn rt) (bw_px_x cy b d t sl hn hs cs ln rp rn rt).symm rfl rfl hl.1 (rest := [.int x3]) (st1 := [.int r11, .int x3]) rfl rfl (Nat.le_of_ble_eq_true rfl) dX5_openProjectsOfText_11 ⟨(Nat.le_of_ble_eq_true rfl), (Nat.le_of_ble_eq_true rfl)⟩ (fun H locs hI => ?_)
      refine lv_icmp_gt (tgt := 122) hx hb dX5_openProjectsOfText_14 (by decide) (fun c_14 => ?_) (fun c_14 => ?_)
      · rw [if_pos c_14] at h
        exact bw_vret (d := d) (rr := d') S hr hlocks h (fun q : bw_A2 => (bw_xW cy b q t sl hn hs cs ln rp rn rt)) hI dX5_openProjectsOfText_122 hQ
      rw [if_neg c_14] at h
      refine lv_iload_n hx hb dX5_openProjectsOfText_17 rfl (lv_at hl 3 rfl) ?_
      refine lv_aload_n hx hb dX5_openProjectsOfText_18 rfl (lv_at hl 0 rfl) ?_
      refine bw_get S hK hI 0 3 rfl rfl (by decide) i_X5 f_X5_29 rfl dX5_openProjectsOfText_19 ?_
      obtain ⟨r22, hc, h⟩ := bw_b1_e h
      refine bw_callV S hK hZ hI (mX4_length l G cy g (b 8 2) (b 8 3) (b 8 4) cs ln rp rn rt r22 hc) Y_X4_length V_X4_length l_X5_134 ⟨(Nat.le_of_ble_eq_true rfl), (Nat.le_of_ble_eq_true rfl)⟩ (q0 := 0) rfl rfl rfl (ws' := (bw_xW cy b d t sl hn hs cs ln rp rn rt)) (bw_px_x cy b d t sl hn hs cs ln rp rn rt) (bw_px_x cy b d t sl hn hs cs ln rp rn rt).symm rfl rfl hl.1 (rest := [.int x3]) (st1 := [.int r22, .int x3]) rfl rfl (Nat.le_of_ble_eq_true rfl) dX5_openProjectsOfText_22 ⟨(Nat.le_of_ble_eq_true rfl), (Nat.le_of_ble_eq_true rfl)⟩ (fun H locs hI => ?_)
      refine lv_icmp_ge (tgt := 39) hx hb dX5_openProjectsOfText_25 (by decide) (fun c_25 => ?_) (fun c_25 => ?_)
      · rw [if_pos c_25] at h
        refine lv_bipush (v := 59) hx hb dX5_openProjectsOfText_39 (by decide) ?_
        exact j41 d x1 x2 x3 59 (lX5_openProjectsOfText_6 cs ln n) ih _ _ _ h hI (lv_sub hl [0,1,2,3] rfl)
      rw [if_neg c_25] at h
      refine lv_aload_n hx hb dX5_openProjectsOfText_28 rfl (lv_at hl 0 rfl) ?_
      refine bw_get S hK hI 0 3 rfl rfl (by decide) i_X5 f_X5_29 rfl dX5_openProjectsOfText_29 ?_
      refine lv_iload_n hx hb dX5_openProjectsOfText_32 rfl (lv_at hl 3 rfl) ?_
      obtain ⟨r33, hc, h⟩ := bw_b1_e h
      refine bw_callV S hK hZ hI (mX4_codeAt l G cy g (b 8 2) (b 8 3) (b 8 4) cs ln rp rn rt x3 r33 hc) Y_X4_codeAt V_X4_codeAt l_X5_251 ⟨(Nat.le_of_ble_eq_true rfl), (Nat.le_of_ble_eq_true rfl)⟩ (q0 := 0) rfl rfl rfl (ws' := (bw_xW cy b d t sl hn hs cs ln rp rn rt)) (bw_px_x cy b d t sl hn hs cs ln rp rn rt) (bw_px_x cy b d t sl hn hs cs ln rp rn rt).symm rfl rfl hl.1 (rest := []) (st1 := [.int r33]) rfl rfl (Nat.le_of_ble_eq_true rfl) dX5_openProjectsOfText_33 ⟨(Nat.le_of_ble_eq_true rfl), (Nat.le_of_ble_eq_true rfl)⟩ (fun H locs hI => ?_)
      refine lv_goto (tgt := 41) hx hb dX5_openProjectsOfText_36 (by decide) ?_
      exact j41 d x1 x2 x3 r33 (lX5_openProjectsOfText_6 cs ln n) ih _ _ _ h hI (lv_sub hl [0,1,2,3] rfl)
  unfold fX5_openProjectsOfText at h
  refine lv_iconst (v := 0) hx hb dX5_openProjectsOfText_0 rfl ?_
  refine lv_istore_n (lv' := [(1, .int 0), (0, .ref (b 8 5))]) hx hb dX5_openProjectsOfText_1 rfl hl (by decide) rfl (fun ls hl => ?_)
  refine lv_iconst (v := 0) hx hb dX5_openProjectsOfText_2 rfl ?_
  refine lv_istore_n (lv' := [(2, .int 0), (1, .int 0), (0, .ref (b 8 5))]) hx hb dX5_openProjectsOfText_3 rfl hl (by decide) rfl (fun ls hl => ?_)
  refine lv_iconst (v := 0) hx hb dX5_openProjectsOfText_4 rfl ?_
  refine lv_istore_n (lv' := [(3, .int 0), (2, .int 0), (1, .int 0), (0, .ref (b 8 5))]) hx hb dX5_openProjectsOfText_5 rfl hl (by decide) rfl (fun ls hl => ?_)
  exact l6  bw_fu _ _ _ d 0 0 0 h hI (lv_sub hl [3,2,1,0] rfl)
set_option maxHeartbeats 4000000 in
set_option maxRecDepth 100000 in
theorem mX5_resultOfTrial (l : Launch) (G : va_G) (cy : Nat → ClassId) (g : Nat) (b : Nat → Nat → Nat) (d : bw_A2) (t : bw_A2) (sl : bw_A3) (hn : Int32) (hs : Int32) (cs : bw_A1) (ln : Int32) (rp : Int32) (rn : Int32) (rt : Int32) (p1 : Int32) (p2 : Int32) (r : Int32) (h : fX5_resultOfTrial t p1 p2 = some r) : bw_M l yX5_resultOfTrial cX5_resultOfTrial 4 (some .int) 3 68 G cy g [.ref (b 8 5), .int p1, .int p2] (bw_xW cy b d t sl hn hs cs ln rp rn rt) (some (.int r)) (bw_xW cy b d t sl hn hs cs ln rp rn rt) := by
  refine bw_ofW (by decide +kernel) RX5 rfl (Nat.le_of_ble_eq_true rfl) ?_
  intro p e s m below meth c ls S hr hlocks hK hZ hI hl
  have hx := S.1
  have hb := S.2.1
  have hown := S.2.2.2.1
  have hts := S.2.2.2.2
  generalize va_A _ s.heap.size = A at hI hZ ⊢
  generalize hQ : MQ below _ _ s 0 0 A = Q
  have hl : lv_has ls 4 [(0, .ref (b 8 5)), (1, .int p1), (2, .int p2)] := hl
  unfold fX5_resultOfTrial at h
  refine lv_aload_n hx hb dX5_resultOfTrial_0 rfl (lv_at hl 0 rfl) ?_
  refine bw_get S hK hI 0 1 rfl rfl (by decide) i_X5 f_X5_16 rfl dX5_resultOfTrial_1 ?_
  refine lv_iload_n hx hb dX5_resultOfTrial_4 rfl (lv_at hl 1 rfl) ?_
  refine lv_bipush (v := 8) hx hb dX5_resultOfTrial_5 (by decide) ?_
  obtain ⟨r7, hc, h⟩ := bw_b1_e h
  refine bw_callV S hK hZ hI (mX0_projectPart l G cy g (b 1) (t 0) (t 1) (t 2) (t 3) (t 4) (t 5 0) (t 5 1) p1 8 r7 hc) Y_X0_projectPart V_X0_projectPart l_X5_71 ⟨(Nat.le_of_ble_eq_true rfl), (Nat.le_of_ble_eq_true rfl)⟩ (q0 := 0) rfl rfl rfl (ws' := (bw_xW cy b d t sl hn hs cs ln rp rn rt)) (bw_px_t cy b d t sl hn hs cs ln rp rn rt) (bw_px_t cy b d t sl hn hs cs ln rp rn rt).symm rfl rfl hl.1 (rest := []) (st1 := [.int r7]) rfl rfl (Nat.le_of_ble_eq_true rfl) dX5_resultOfTrial_7 ⟨(Nat.le_of_ble_eq_true rfl), (Nat.le_of_ble_eq_true rfl)⟩ (fun H locs hI => ?_)
  refine lv_iconst (v := 1) hx hb dX5_resultOfTrial_10 rfl ?_
  refine lv_isub hx hb dX5_resultOfTrial_11 ?_
  refine lv_topi (fun x3_12 e_12 => ?_)
  have h := bw_let_e h e_12
  clear e_12
  refine lv_istore_n (lv' := [(3, .int x3_12), (0, .ref (b 8 5)), (1, .int p1), (2, .int p2)]) hx hb dX5_resultOfTrial_12 rfl hl (by decide) rfl (fun ls hl => ?_)
  refine lv_iload_n hx hb dX5_resultOfTrial_13 rfl (lv_at hl 3 rfl) ?_
  by_cases c_14_0 : p2 = 0
  · rw [if_pos c_14_0] at h
    refine lv_tableIn (tgt := 44) hx hb dX5_resultOfTrial_14 (by rw [c_14_0]; decide) (by rw [c_14_0]; decide) (by rw [c_14_0]; rfl) (by decide) ?_
    refine lv_aload_n hx hb dX5_resultOfTrial_44 rfl (lv_at hl 1 rfl) ?_
    refine bw_get S hK hI 0 1 rfl rfl (by decide) i_X5 f_X5_16 rfl dX5_resultOfTrial_45 ?_
    refine lv_iload_n hx hb dX5_resultOfTrial_48 rfl (lv_at hl 2 rfl) ?_
    refine lv_iload_n hx hb dX5_resultOfTrial_49 rfl (lv_at hl 0 rfl) ?_
    refine lv_iconst (v := 5) hx hb dX5_resultOfTrial_50 rfl ?_
    obtain ⟨r51, hc, h⟩ := bw_b1_e h
    refine bw_callV S hK hZ hI (mX0_taskPart l G cy g (b 1) (t 0) (t 1) (t 2) (t 3) (t 4) (t 5 0) (t 5 1) p1 x3_12 5 r51 hc) Y_X0_taskPart V_X0_taskPart l_X5_175 ⟨(Nat.le_of_ble_eq_true rfl), (Nat.le_of_ble_eq_true rfl)⟩ (q0 := 0) rfl rfl rfl (ws' := (bw_xW cy b d t sl hn hs cs ln rp rn rt)) (bw_px_t cy b d t sl hn hs cs ln rp rn rt) (bw_px_t cy b d t sl hn hs cs ln rp rn rt).symm rfl rfl hl.1 (rest := []) (st1 := [.int r51]) rfl rfl (Nat.le_of_ble_eq_true rfl) dX5_resultOfTrial_51 ⟨(Nat.le_of_ble_eq_true rfl), (Nat.le_of_ble_eq_true rfl)⟩ (fun H locs hI => ?_)
    exact bw_iretP S hr hlocks h hI rfl dX5_resultOfTrial_54 hQ
  rw [if_neg c_14_0] at h
  by_cases c_14_1 : p2 = 1
  · rw [if_pos c_14_1] at h
    refine lv_tableIn (tgt := 55) hx hb dX5_resultOfTrial_14 (by rw [c_14_1]; decide) (by rw [c_14_1]; decide) (by rw [c_14_1]; rfl) (by decide) ?_
    refine lv_aload_n hx hb dX5_resultOfTrial_55 rfl (lv_at hl 1 rfl) ?_
    refine bw_get S hK hI 0 1 rfl rfl (by decide) i_X5 f_X5_16 rfl dX5_resultOfTrial_56 ?_
    refine lv_iload_n hx hb dX5_resultOfTrial_59 rfl (lv_at hl 2 rfl) ?_
    refine lv_iload_n hx hb dX5_resultOfTrial_60 rfl (lv_at hl 0 rfl) ?_
    refine lv_iconst (v := 4) hx hb dX5_resultOfTrial_61 rfl ?_
    obtain ⟨r62, hc, h⟩ := bw_b1_e h
    refine bw_callV S hK hZ hI (mX0_taskPart l G cy g (b 1) (t 0) (t 1) (t 2) (t 3) (t 4) (t 5 0) (t 5 1) p1 x3_12 4 r62 hc) Y_X0_taskPart V_X0_taskPart l_X5_175 ⟨(Nat.le_of_ble_eq_true rfl), (Nat.le_of_ble_eq_true rfl)⟩ (q0 := 0) rfl rfl rfl (ws' := (bw_xW cy b d t sl hn hs cs ln rp rn rt)) (bw_px_t cy b d t sl hn hs cs ln rp rn rt) (bw_px_t cy b d t sl hn hs cs ln rp rn rt).symm rfl rfl hl.1 (rest := []) (st1 := [.int r62]) rfl rfl (Nat.le_of_ble_eq_true rfl) dX5_resultOfTrial_62 ⟨(Nat.le_of_ble_eq_true rfl), (Nat.le_of_ble_eq_true rfl)⟩ (fun H locs hI => ?_)
    exact bw_iretP S hr hlocks h hI rfl dX5_resultOfTrial_65 hQ
  rw [if_neg c_14_1] at h
  by_cases c_14_2 : p2 = 2
  · rw [if_pos c_14_2] at h
    refine lv_tableIn (tgt := 66) hx hb dX5_resultOfTrial_14 (by rw [c_14_2]; decide) (by rw [c_14_2]; decide) (by rw [c_14_2]; rfl) (by decide) ?_
    refine lv_aload_n hx hb dX5_resultOfTrial_66 rfl (lv_at hl 1 rfl) ?_
    refine bw_get S hK hI 0 1 rfl rfl (by decide) i_X5 f_X5_16 rfl dX5_resultOfTrial_67 ?_
    refine lv_iload_n hx hb dX5_resultOfTrial_70 rfl (lv_at hl 2 rfl) ?_
    refine lv_iload_n hx hb dX5_resultOfTrial_71 rfl (lv_at hl 0 rfl) ?_
    refine lv_iconst (v := 3) hx hb dX5_resultOfTrial_72 rfl ?_
    obtain ⟨r73, hc, h⟩ := bw_b1_e h
    refine bw_callV S hK hZ hI (mX0_taskPart l G cy g (b 1) (t 0) (t 1) (t 2) (t 3) (t 4) (t 5 0) (t 5 1) p1 x3_12 3 r73 hc) Y_X0_taskPart V_X0_taskPart l_X5_175 ⟨(Nat.le_of_ble_eq_true rfl), (Nat.le_of_ble_eq_true rfl)⟩ (q0 := 0) rfl rfl rfl (ws' := (bw_xW cy b d t sl hn hs cs ln rp rn rt)) (bw_px_t cy b d t sl hn hs cs ln rp rn rt) (bw_px_t cy b d t sl hn hs cs ln rp rn rt).symm rfl rfl hl.1 (rest := []) (st1 := [.int r73]) rfl rfl (Nat.le_of_ble_eq_true rfl) dX5_resultOfTrial_73 ⟨(Nat.le_of_ble_eq_true rfl), (Nat.le_of_ble_eq_true rfl)⟩ (fun H locs hI => ?_)
    exact bw_iretP S hr hlocks h hI rfl dX5_resultOfTrial_76 hQ
  rw [if_neg c_14_2] at h
  by_cases c_14_3 : p2 = 3
  · rw [if_pos c_14_3] at h
    refine lv_tableIn (tgt := 77) hx hb dX5_resultOfTrial_14 (by rw [c_14_3]; decide) (by rw [c_14_3]; decide) (by rw [c_14_3]; rfl) (by decide) ?_
    refine lv_aload_n hx hb dX5_resultOfTrial_77 rfl (lv_at hl 1 rfl) ?_
    refine bw_get S hK hI 0 1 rfl rfl (by decide) i_X5 f_X5_16 rfl dX5_resultOfTrial_78 ?_
    refine lv_iload_n hx hb dX5_resultOfTrial_81 rfl (lv_at hl 2 rfl) ?_
    refine lv_iconst (v := 2) hx hb dX5_resultOfTrial_82 rfl ?_
    obtain ⟨r83, hc, h⟩ := bw_b1_e h
    refine bw_callV S hK hZ hI (mX0_projectPart l G cy g (b 1) (t 0) (t 1) (t 2) (t 3) (t 4) (t 5 0) (t 5 1) p1 2 r83 hc) Y_X0_projectPart V_X0_projectPart l_X5_71 ⟨(Nat.le_of_ble_eq_true rfl), (Nat.le_of_ble_eq_true rfl)⟩ (q0 := 0) rfl rfl rfl (ws' := (bw_xW cy b d t sl hn hs cs ln rp rn rt)) (bw_px_t cy b d t sl hn hs cs ln rp rn rt) (bw_px_t cy b d t sl hn hs cs ln rp rn rt).symm rfl rfl hl.1 (rest := []) (st1 := [.int r83]) rfl rfl (Nat.le_of_ble_eq_true rfl) dX5_resultOfTrial_83 ⟨(Nat.le_of_ble_eq_true rfl), (Nat.le_of_ble_eq_true rfl)⟩ (fun H locs hI => ?_)
    exact bw_iretP S hr hlocks h hI rfl dX5_resultOfTrial_86 hQ
  rw [if_neg c_14_3] at h
  have t_0 := bw_nei c_14_0
  have t_1 := bw_nei c_14_1
  have t_2 := bw_nei c_14_2
  have t_3 := bw_nei c_14_3
  refine lv_tableOut (tgt := 87) hx hb dX5_resultOfTrial_14 (bw_out4 t_0 t_1 t_2 t_3) (by decide) ?_
  refine lv_aload_n hx hb dX5_resultOfTrial_87 rfl (lv_at hl 1 rfl) ?_
  refine bw_get S hK hI 0 1 rfl rfl (by decide) i_X5 f_X5_16 rfl dX5_resultOfTrial_88 ?_
  refine lv_iload_n hx hb dX5_resultOfTrial_91 rfl (lv_at hl 2 rfl) ?_
  refine lv_iconst (v := 4) hx hb dX5_resultOfTrial_92 rfl ?_
  obtain ⟨r93, hc, h⟩ := bw_b1_e h
  refine bw_callV S hK hZ hI (mX0_projectPart l G cy g (b 1) (t 0) (t 1) (t 2) (t 3) (t 4) (t 5 0) (t 5 1) p1 4 r93 hc) Y_X0_projectPart V_X0_projectPart l_X5_71 ⟨(Nat.le_of_ble_eq_true rfl), (Nat.le_of_ble_eq_true rfl)⟩ (q0 := 0) rfl rfl rfl (ws' := (bw_xW cy b d t sl hn hs cs ln rp rn rt)) (bw_px_t cy b d t sl hn hs cs ln rp rn rt) (bw_px_t cy b d t sl hn hs cs ln rp rn rt).symm rfl rfl hl.1 (rest := []) (st1 := [.int r93]) rfl rfl (Nat.le_of_ble_eq_true rfl) dX5_resultOfTrial_93 ⟨(Nat.le_of_ble_eq_true rfl), (Nat.le_of_ble_eq_true rfl)⟩ (fun H locs hI => ?_)
  exact bw_iretP S hr hlocks h hI rfl dX5_resultOfTrial_96 hQ
set_option maxHeartbeats 4000000 in
set_option maxRecDepth 100000 in
theorem mX5_weakest (l : Launch) (G : va_G) (cy : Nat → ClassId) (g : Nat) (b : Nat → Nat → Nat) (d : bw_A2) (t : bw_A2) (sl : bw_A3) (hn : Int32) (hs : Int32) (cs : bw_A1) (ln : Int32) (rp : Int32) (rn : Int32) (rt : Int32) (r : Int32) (h : fX5_weakest d = some r) : bw_M l yX5_weakest cX5_weakest 1 (some .int) 5 116 G cy g [.ref (b 8 5)] (bw_xW cy b d t sl hn hs cs ln rp rn rt) (some (.int r)) (bw_xW cy b d t sl hn hs cs ln rp rn rt) := by
  refine bw_ofW (by decide +kernel) RX5 rfl (Nat.le_of_ble_eq_true rfl) ?_
  intro p e s m below meth c ls S hr hlocks hK hZ hI hl
  have hx := S.1
  have hb := S.2.1
  have hown := S.2.2.2.1
  have hts := S.2.2.2.2
  generalize va_A _ s.heap.size = A at hI hZ ⊢
  generalize hQ : MQ below _ _ s 0 0 A = Q
  have hl : lv_has ls 1 [(0, .ref (b 8 5))] := hl
  unfold fX5_weakest at h
  refine lv_aload_n hx hb dX5_weakest_0 rfl (lv_at hl 0 rfl) ?_
  refine bw_get S hK hI 0 0 rfl rfl (by decide) i_X5 f_X5_12 rfl dX5_weakest_1 ?_
  obtain ⟨r4, hc, h⟩ := bw_b1_e h
  refine bw_callV S hK hZ hI (mX0_weakestProject l G cy g (b 0) (d 0) (d 1) (d 2) (d 3) (d 4) (d 5 0) (d 5 1) r4 hc) Y_X0_weakestProject V_X0_weakestProject l_X5_214 ⟨(Nat.le_of_ble_eq_true rfl), (Nat.le_of_ble_eq_true rfl)⟩ (q0 := 0) rfl rfl rfl (ws' := (bw_xW cy b d t sl hn hs cs ln rp rn rt)) (bw_px_d cy b d t sl hn hs cs ln rp rn rt) (bw_px_d cy b d t sl hn hs cs ln rp rn rt).symm rfl rfl hl.1 (rest := []) (st1 := [.int r4]) rfl rfl (Nat.le_of_ble_eq_true rfl) dX5_weakest_4 ⟨(Nat.le_of_ble_eq_true rfl), (Nat.le_of_ble_eq_true rfl)⟩ (fun H locs hI => ?_)
  exact bw_iretP S hr hlocks h hI rfl dX5_weakest_7 hQ
set_option maxHeartbeats 4000000 in
set_option maxRecDepth 100000 in
theorem mX5_lateShare (l : Launch) (G : va_G) (cy : Nat → ClassId) (g : Nat) (b : Nat → Nat → Nat) (d : bw_A2) (t : bw_A2) (sl : bw_A3) (hn : Int32) (hs : Int32) (cs : bw_A1) (ln : Int32) (rp : Int32) (rn : Int32) (rt : Int32) (r : UInt64) (h : fX5_lateShare d = some r) : bw_M l yX5_lateShare cX5_lateShare 2 (some .double) 2 47 G cy g [.ref (b 8 5)] (bw_xW cy b d t sl hn hs cs ln rp rn rt) (some (.double r)) (bw_xW cy b d t sl hn hs cs ln rp rn rt) := by
  refine bw_ofW (by decide +kernel) RX5 rfl (Nat.le_of_ble_eq_true rfl) ?_
  intro p e s m below meth c ls S hr hlocks hK hZ hI hl
  have hx := S.1
  have hb := S.2.1
  have hown := S.2.2.2.1
  have hts := S.2.2.2.2
  generalize va_A _ s.heap.size = A at hI hZ ⊢
  generalize hQ : MQ below _ _ s 0 0 A = Q
  have hl : lv_has ls 2 [(0, .ref (b 8 5))] := hl
  unfold fX5_lateShare at h
  refine lv_aload_n hx hb dX5_lateShare_0 rfl (lv_at hl 0 rfl) ?_
  refine bw_get S hK hI 0 0 rfl rfl (by decide) i_X5 f_X5_12 rfl dX5_lateShare_1 ?_
  obtain ⟨r4, hc, h⟩ := bw_b1_e h
  refine bw_callV S hK hZ hI (mX0_delayOfTasks l G cy g (b 0) (d 0) (d 1) (d 2) (d 3) (d 4) (d 5 0) (d 5 1) r4 hc) Y_X0_delayOfTasks V_X0_delayOfTasks l_X5_220 ⟨(Nat.le_of_ble_eq_true rfl), (Nat.le_of_ble_eq_true rfl)⟩ (q0 := 0) rfl rfl rfl (ws' := (bw_xW cy b d t sl hn hs cs ln rp rn rt)) (bw_px_d cy b d t sl hn hs cs ln rp rn rt) (bw_px_d cy b d t sl hn hs cs ln rp rn rt).symm rfl rfl hl.1 (rest := []) (st1 := [.int r4]) rfl rfl (Nat.le_of_ble_eq_true rfl) dX5_lateShare_4 ⟨(Nat.le_of_ble_eq_true rfl), (Nat.le_of_ble_eq_true rfl)⟩ (fun H locs hI => ?_)
  refine lv_istore_n (lv' := [(1, .int r4), (0, .ref (b 8 5))]) hx hb dX5_lateShare_7 rfl hl (by decide) rfl (fun ls hl => ?_)
  refine lv_iload_n hx hb dX5_lateShare_8 rfl (lv_at hl 0 rfl) ?_
  refine lv_if_ne (tgt := 16) hx hb dX5_lateShare_9 (by decide) (fun c_9 => ?_) (fun c_9 => ?_)
  · rw [if_neg c_9] at h
    refine lv_aload_n hx hb dX5_lateShare_16 rfl (lv_at hl 1 rfl) ?_
    refine bw_get S hK hI 0 0 rfl rfl (by decide) i_X5 f_X5_12 rfl dX5_lateShare_17 ?_
    refine lv_bipush (v := 6) hx hb dX5_lateShare_20 (by decide) ?_
    obtain ⟨r22, hc, h⟩ := bw_b1_e h
    refine bw_callV S hK hZ hI (mX0_sumOfProjects l G cy g (b 0) (d 0) (d 1) (d 2) (d 3) (d 4) (d 5 0) (d 5 1) 6 r22 hc) Y_X0_sumOfProjects V_X0_sumOfProjects l_X5_223 ⟨(Nat.le_of_ble_eq_true rfl), (Nat.le_of_ble_eq_true rfl)⟩ (q0 := 0) rfl rfl rfl (ws' := (bw_xW cy b d t sl hn hs cs ln rp rn rt)) (bw_px_d cy b d t sl hn hs cs ln rp rn rt) (bw_px_d cy b d t sl hn hs cs ln rp rn rt).symm rfl rfl hl.1 (rest := []) (st1 := [.int r22]) rfl rfl (Nat.le_of_ble_eq_true rfl) dX5_lateShare_22 ⟨(Nat.le_of_ble_eq_true rfl), (Nat.le_of_ble_eq_true rfl)⟩ (fun H locs hI => ?_)
    refine lv_i2d hx hb dX5_lateShare_25 ?_
    refine lv_iload_n hx hb dX5_lateShare_26 rfl (lv_at hl 0 rfl) ?_
    refine lv_i2d hx hb dX5_lateShare_27 ?_
    obtain ⟨w28, e_28⟩ : ∃ y : UInt64, y = FP.ddiv (FP.i2d r22) (FP.i2d r4) := ⟨_, rfl⟩
    have h := bw_let_e h e_28
    obtain ⟨h9, h⟩ := bw_num_e h
    refine lv_ddiv hx hb dX5_lateShare_28 (by rw [← e_28]; exact h9) ?_
    rw [← e_28]
    exact bw_dretP S hr hlocks h hI dX5_lateShare_29 hQ
  rw [if_pos c_9] at h
  refine lv_dconst0 hx hb dX5_lateShare_12 ?_
  refine lv_goto (tgt := 29) hx hb dX5_lateShare_13 (by decide) ?_
  exact bw_dretP S hr hlocks h hI dX5_lateShare_29 hQ
set_option maxHeartbeats 4000000 in
set_option maxRecDepth 100000 in
theorem mX5_mix (l : Launch) (G : va_G) (cy : Nat → ClassId) (g : Nat) (p0 : Int64) (p2 : Int64) (r : Int64) (h : fX5_mix p0 p2 = some r) : bw_M l yX5_mix cX5_mix 4 (some .long) 0 0 G cy g [.long p0, .long p2] [] (some (.long r)) [] := by
  refine bw_ofW (by decide +kernel) RX5 rfl (Nat.le_of_ble_eq_true rfl) ?_
  intro p e s m below meth c ls S hr hlocks hK hZ hI hl
  have hx := S.1
  have hb := S.2.1
  have hown := S.2.2.2.1
  have hts := S.2.2.2.2
  generalize va_A _ s.heap.size = A at hI hZ ⊢
  generalize hQ : MQ below _ _ s 0 0 A = Q
  have hl : lv_has ls 4 [(0, .long p0), (2, .long p2)] := hl
  unfold fX5_mix at h
  refine lv_ldc2 hx hb hown (hts _ (List.mem_cons_of_mem _ k_X5_269)) dX5_mix_0 ?_
  refine lv_lload_n hx hb dX5_mix_3 rfl (lv_at hl 0 rfl) ?_
  refine lv_lmul hx hb dX5_mix_4 ?_
  refine lv_lload_n hx hb dX5_mix_5 rfl (lv_at hl 1 rfl) ?_
  refine lv_ladd hx hb dX5_mix_6 ?_
  exact bw_lretP S hr hlocks h hI dX5_mix_7 hQ
set_option maxHeartbeats 4000000 in
set_option maxRecDepth 100000 in
theorem mX5_mixWhatIs (l : Launch) (G : va_G) (cy : Nat → ClassId) (g : Nat) (b : Nat → Nat → Nat) (d : bw_A2) (t : bw_A2) (sl : bw_A3) (hn : Int32) (hs : Int32) (cs : bw_A1) (ln : Int32) (rp : Int32) (rn : Int32) (rt : Int32) (p1 : Int64) (p3 : Int32) (r : Int64) (d' : bw_A2) (h : fX5_mixWhatIs d p1 p3 = some (r, d')) : bw_M l yX5_mixWhatIs cX5_mixWhatIs 8 (some .long) 4 94 G cy g [.ref (b 8 5), .long p1, .int p3] (bw_xW cy b d t sl hn hs cs ln rp rn rt) (some (.long r)) (bw_xW cy b d' t sl hn hs cs ln rp rn rt) := by
  refine bw_ofW (by decide +kernel) RX5 rfl (Nat.le_of_ble_eq_true rfl) ?_
  intro p e s m below meth c ls S hr hlocks hK hZ hI hl
  have hx := S.1
  have hb := S.2.1
  have hown := S.2.2.2.1
  have hts := S.2.2.2.2
  generalize va_A _ s.heap.size = A at hI hZ ⊢
  generalize hQ : MQ below _ _ s 0 0 A = Q
  have hl : lv_has ls 8 [(0, .ref (b 8 5)), (1, .long p1), (3, .int p3)] := hl
  have l99 : ∀ (x3 : Int32) (n : Nat) (H : Heap) (locs : List Loc) (ls : Array Slot) (d : bw_A2) (x4 : Int64) (x6 : Int32), lX5_mixWhatIs_99 x3 n d x4 x6 = some (r, d') → bw_I G A s.heap (bw_xW cy b d t sl hn hs cs ln rp rn rt) H locs → lv_has ls 8 [(0, .ref (b 8 5)), (3, .int x3), (4, .long x4), (6, .int x6)] → W p l e (bw_rm 4 94) s m [.ref (b 8 5), .long p1, .int p3].toArray below meth c H locs 0 0 Q (F0 m 99 ls []) := by
    intro x3 n
    induction n with
    | zero => intro H locs ls d x4 x6 h; exact bw_none h
    | succ n ih =>
      intro H locs ls d x4 x6 h hI hl
      have h : bX5_mixWhatIs_99  (lX5_mixWhatIs_99 x3 n) x3 d x4 x6 = some (r, d') := h
      unfold bX5_mixWhatIs_99 at h
      refine lv_iload hx hb dX5_mixWhatIs_99 (lv_at hl 3 rfl) ?_
      refine lv_iconst (v := 3) hx hb dX5_mixWhatIs_101 rfl ?_
      refine lv_icmp_ge (tgt := 129) hx hb dX5_mixWhatIs_102 (by decide) (fun c_102 => ?_) (fun c_102 => ?_)
      · rw [if_pos c_102] at h
        refine lv_lload hx hb dX5_mixWhatIs_129 (lv_at hl 2 rfl) ?_
        exact bw_lret (d := d) (rr := (r, d')) S hr hlocks h (fun q : bw_A2 => (bw_xW cy b q t sl hn hs cs ln rp rn rt)) hI dX5_mixWhatIs_131 hQ
      rw [if_neg c_102] at h
      refine lv_lload hx hb dX5_mixWhatIs_105 (lv_at hl 2 rfl) ?_
      refine lv_aload_n hx hb dX5_mixWhatIs_107 rfl (lv_at hl 0 rfl) ?_
      refine bw_get S hK hI 0 0 rfl rfl (by decide) i_X5 f_X5_12 rfl dX5_mixWhatIs_108 ?_
      refine lv_iload_n hx hb dX5_mixWhatIs_111 rfl (lv_at hl 1 rfl) ?_
      refine lv_iload hx hb dX5_mixWhatIs_112 (lv_at hl 3 rfl) ?_
      obtain ⟨r114, tq_114, hc, h⟩ := bw_b2_e h
      obtain ⟨d_114, e_114⟩ : ∃ z, z = (va_up d 4 tq_114) := ⟨_, rfl⟩
      have h := bw_let_e h e_114
      refine bw_callV S hK hZ hI (mX0_lenderAt l G cy g (b 0) (d 0) (d 1) (d 2) (d 3) (d 4) (d 5 0) (d 5 1) x3 x6 r114 tq_114 hc) Y_X0_lenderAt V_X0_lenderAt l_X5_191 ⟨(Nat.le_of_ble_eq_true rfl), (Nat.le_of_ble_eq_true rfl)⟩ (q0 := 0) rfl rfl rfl (ws' := (bw_xW cy b d_114 t sl hn hs cs ln rp rn rt)) (bw_px_d cy b d t sl hn hs cs ln rp rn rt) (by rw [e_114]; exact (bw_px_d cy b (va_up d 4 tq_114) t sl hn hs cs ln rp rn rt).symm) rfl rfl hl.1 (rest := [.long x4]) (st1 := [.int r114, .long x4]) rfl rfl (Nat.le_of_ble_eq_true rfl) dX5_mixWhatIs_114 ⟨(Nat.le_of_ble_eq_true rfl), (Nat.le_of_ble_eq_true rfl)⟩ (fun H locs hI => ?_)
      clear e_114
      refine lv_i2l hx hb dX5_mixWhatIs_117 rfl ?_
      obtain ⟨r118, hc, h⟩ := bw_b1_e h
      refine bw_callP S hK hZ hI (mX5_mix l G cy g x4 (Int32.toInt64 r114) r118 hc) Y_X5_mix V_X5_mix l_X5_228 ⟨(Nat.le_of_ble_eq_true rfl), (Nat.le_of_ble_eq_true rfl)⟩ (rest := []) (st1 := [.long r118]) rfl hl.1 rfl rfl (Nat.le_of_ble_eq_true rfl) dX5_mixWhatIs_118 ⟨(Nat.le_of_ble_eq_true rfl), (Nat.le_of_ble_eq_true rfl)⟩ (fun H locs hI => ?_)
      refine lv_lstore (lv' := [(4, .long r118), (0, .ref (b 8 5)), (3, .int x3), (6, .int x6)]) hx hb dX5_mixWhatIs_121 hl (by decide) rfl (fun ls hl => ?_)
      obtain ⟨x6_123, e_123⟩ : ∃ y : Int32, y = x6 + 1 := ⟨_, rfl⟩
      have h := bw_let_e h e_123
      refine lv_iinc (v := x6_123) (lv' := [(6, .int x6_123), (4, .long r118), (0, .ref (b 8 5)), (3, .int x3)]) hx hb dX5_mixWhatIs_123 hl (k := 3) rfl (by rw [e_123]; rfl) (by decide) rfl (fun ls hl => ?_)
      clear e_123
      refine lv_goto (tgt := 99) hx hb dX5_mixWhatIs_126 (by decide) ?_
      exact ih _ _ _ d_114 r118 x6_123 h hI (lv_sub hl [2,3,1,0] rfl)
  have l58 : ∀ (d : bw_A2) (x3 : Int32) (x6 : Int32) (k40 : Int64 → Int32 → Option (Int64 × bw_A2)) (hk40 : ∀ (H : Heap) (locs : List Loc) (ls : Array Slot) (x4_ : Int64) (x6_ : Int32), k40 x4_ x6_ = some (r, d') → bw_I G A s.heap (bw_xW cy b d t sl hn hs cs ln rp rn rt) H locs → lv_has ls 8 [(0, .ref (b 8 5)), (3, .int x3), (4, .long x4_), (6, .int x6_)] → W p l e (bw_rm 4 94) s m [.ref (b 8 5), .long p1, .int p3].toArray below meth c H locs 0 0 Q (F0 m 40 ls [])) (n : Nat) (H : Heap) (locs : List Loc) (ls : Array Slot) (x4 : Int64) (x7 : Int32), lX5_mixWhatIs_58 k40 d x3 x6 n x4 x7 = some (r, d') → bw_I G A s.heap (bw_xW cy b d t sl hn hs cs ln rp rn rt) H locs → lv_has ls 8 [(0, .ref (b 8 5)), (3, .int x3), (4, .long x4), (6, .int x6), (7, .int x7)] → W p l e (bw_rm 4 94) s m [.ref (b 8 5), .long p1, .int p3].toArray below meth c H locs 0 0 Q (F0 m 58 ls []) := by
    intro d x3 x6 k40 hk40 n
    induction n with
    | zero => intro H locs ls x4 x7 h; exact bw_none h
    | succ n ih =>
      intro H locs ls x4 x7 h hI hl
      have h : bX5_mixWhatIs_58 k40 (lX5_mixWhatIs_58 k40 d x3 x6 n) d x3 x6 x4 x7 = some (r, d') := h
      unfold bX5_mixWhatIs_58 at h
      refine lv_iload hx hb dX5_mixWhatIs_58 (lv_at hl 4 rfl) ?_
      refine lv_iconst (v := 5) hx hb dX5_mixWhatIs_60 rfl ?_
      refine lv_icmp_gt (tgt := 90) hx hb dX5_mixWhatIs_61 (by decide) (fun c_61 => ?_) (fun c_61 => ?_)
      · rw [if_pos c_61] at h
        obtain ⟨x6_90, e_90⟩ : ∃ y : Int32, y = x6 + 1 := ⟨_, rfl⟩
        have h := bw_let_e h e_90
        refine lv_iinc (v := x6_90) (lv' := [(6, .int x6_90), (0, .ref (b 8 5)), (3, .int x3), (4, .long x4), (7, .int x7)]) hx hb dX5_mixWhatIs_90 hl (k := 3) rfl (by rw [e_90]; rfl) (by decide) rfl (fun ls hl => ?_)
        clear e_90
        refine lv_goto (tgt := 40) hx hb dX5_mixWhatIs_93 (by decide) ?_
        exact hk40 _ _ _ x4 x6_90 h hI (lv_sub hl [1,2,3,0] rfl)
      rw [if_neg c_61] at h
      refine lv_lload hx hb dX5_mixWhatIs_64 (lv_at hl 2 rfl) ?_
      refine lv_aload_n hx hb dX5_mixWhatIs_66 rfl (lv_at hl 0 rfl) ?_
      refine bw_get S hK hI 0 0 rfl rfl (by decide) i_X5 f_X5_12 rfl dX5_mixWhatIs_67 ?_
      refine lv_iload_n hx hb dX5_mixWhatIs_70 rfl (lv_at hl 1 rfl) ?_
      refine lv_iload hx hb dX5_mixWhatIs_71 (lv_at hl 3 rfl) ?_
      refine lv_iload hx hb dX5_mixWhatIs_73 (lv_at hl 4 rfl) ?_
      obtain ⟨r75, hc, h⟩ := bw_b1_e h
      refine bw_callV S hK hZ hI (mX0_taskPart l G cy g (b 0) (d 0) (d 1) (d 2) (d 3) (d 4) (d 5 0) (d 5 1) x3 x6 x7 r75 hc) Y_X0_taskPart V_X0_taskPart l_X5_175 ⟨(Nat.le_of_ble_eq_true rfl), (Nat.le_of_ble_eq_true rfl)⟩ (q0 := 0) rfl rfl rfl (ws' := (bw_xW cy b d t sl hn hs cs ln rp rn rt)) (bw_px_d cy b d t sl hn hs cs ln rp rn rt) (bw_px_d cy b d t sl hn hs cs ln rp rn rt).symm rfl rfl hl.1 (rest := [.long x4]) (st1 := [.int r75, .long x4]) rfl rfl (Nat.le_of_ble_eq_true rfl) dX5_mixWhatIs_75 ⟨(Nat.le_of_ble_eq_true rfl), (Nat.le_of_ble_eq_true rfl)⟩ (fun H locs hI => ?_)
      refine lv_i2l hx hb dX5_mixWhatIs_78 rfl ?_
      obtain ⟨r79, hc, h⟩ := bw_b1_e h
      refine bw_callP S hK hZ hI (mX5_mix l G cy g x4 (Int32.toInt64 r75) r79 hc) Y_X5_mix V_X5_mix l_X5_228 ⟨(Nat.le_of_ble_eq_true rfl), (Nat.le_of_ble_eq_true rfl)⟩ (rest := []) (st1 := [.long r79]) rfl hl.1 rfl rfl (Nat.le_of_ble_eq_true rfl) dX5_mixWhatIs_79 ⟨(Nat.le_of_ble_eq_true rfl), (Nat.le_of_ble_eq_true rfl)⟩ (fun H locs hI => ?_)
      refine lv_lstore (lv' := [(4, .long r79), (0, .ref (b 8 5)), (3, .int x3), (6, .int x6), (7, .int x7)]) hx hb dX5_mixWhatIs_82 hl (by decide) rfl (fun ls hl => ?_)
      obtain ⟨x7_84, e_84⟩ : ∃ y : Int32, y = x7 + 1 := ⟨_, rfl⟩
      have h := bw_let_e h e_84
      refine lv_iinc (v := x7_84) (lv' := [(7, .int x7_84), (4, .long r79), (0, .ref (b 8 5)), (3, .int x3), (6, .int x6)]) hx hb dX5_mixWhatIs_84 hl (k := 4) rfl (by rw [e_84]; rfl) (by decide) rfl (fun ls hl => ?_)
      clear e_84
      refine lv_goto (tgt := 58) hx hb dX5_mixWhatIs_87 (by decide) ?_
      exact ih _ _ _ r79 x7_84 h hI (lv_sub hl [2,3,1,4,0] rfl)
  have l40 : ∀ (d : bw_A2) (x3 : Int32) (n : Nat) (H : Heap) (locs : List Loc) (ls : Array Slot) (x4 : Int64) (x6 : Int32), lX5_mixWhatIs_40 d x3 n x4 x6 = some (r, d') → bw_I G A s.heap (bw_xW cy b d t sl hn hs cs ln rp rn rt) H locs → lv_has ls 8 [(0, .ref (b 8 5)), (3, .int x3), (4, .long x4), (6, .int x6)] → W p l e (bw_rm 4 94) s m [.ref (b 8 5), .long p1, .int p3].toArray below meth c H locs 0 0 Q (F0 m 40 ls []) := by
    intro d x3 n
    induction n with
    | zero => intro H locs ls x4 x6 h; exact bw_none h
    | succ n ih =>
      intro H locs ls x4 x6 h hI hl
      have h : bX5_mixWhatIs_40  (lX5_mixWhatIs_40 d x3 n) d x3 x4 x6 = some (r, d') := h
      unfold bX5_mixWhatIs_40 at h
      refine lv_iload hx hb dX5_mixWhatIs_40 (lv_at hl 3 rfl) ?_
      refine lv_aload_n hx hb dX5_mixWhatIs_42 rfl (lv_at hl 0 rfl) ?_
      refine bw_get S hK hI 0 0 rfl rfl (by decide) i_X5 f_X5_12 rfl dX5_mixWhatIs_43 ?_
      refine lv_iload_n hx hb dX5_mixWhatIs_46 rfl (lv_at hl 1 rfl) ?_
      refine lv_bipush (v := 7) hx hb dX5_mixWhatIs_47 (by decide) ?_
      obtain ⟨r49, hc, h⟩ := bw_b1_e h
      refine bw_callV S hK hZ hI (mX0_projectPart l G cy g (b 0) (d 0) (d 1) (d 2) (d 3) (d 4) (d 5 0) (d 5 1) x3 7 r49 hc) Y_X0_projectPart V_X0_projectPart l_X5_71 ⟨(Nat.le_of_ble_eq_true rfl), (Nat.le_of_ble_eq_true rfl)⟩ (q0 := 0) rfl rfl rfl (ws' := (bw_xW cy b d t sl hn hs cs ln rp rn rt)) (bw_px_d cy b d t sl hn hs cs ln rp rn rt) (bw_px_d cy b d t sl hn hs cs ln rp rn rt).symm rfl rfl hl.1 (rest := [.int x6]) (st1 := [.int r49, .int x6]) rfl rfl (Nat.le_of_ble_eq_true rfl) dX5_mixWhatIs_49 ⟨(Nat.le_of_ble_eq_true rfl), (Nat.le_of_ble_eq_true rfl)⟩ (fun H locs hI => ?_)
      refine lv_icmp_ge (tgt := 96) hx hb dX5_mixWhatIs_52 (by decide) (fun c_52 => ?_) (fun c_52 => ?_)
      · rw [if_pos c_52] at h
        refine lv_iconst (v := 0) hx hb dX5_mixWhatIs_96 rfl ?_
        refine lv_istore (lv' := [(6, .int 0), (0, .ref (b 8 5)), (3, .int x3), (4, .long x4)]) hx hb dX5_mixWhatIs_97 hl (by decide) rfl (fun ls hl => ?_)
        exact l99 x3 bw_fu _ _ _ d x4 0 h hI (lv_sub hl [1,2,3,0] rfl)
      rw [if_neg c_52] at h
      refine lv_iconst (v := 0) hx hb dX5_mixWhatIs_55 rfl ?_
      refine lv_istore (lv' := [(7, .int 0), (0, .ref (b 8 5)), (3, .int x3), (4, .long x4), (6, .int x6)]) hx hb dX5_mixWhatIs_56 hl (by decide) rfl (fun ls hl => ?_)
      exact l58 d x3 x6 (lX5_mixWhatIs_40 d x3 n) ih bw_fu _ _ _ x4 0 h hI (lv_sub hl [1,2,3,4,0] rfl)
  have l6 : ∀ (d : bw_A2) (x3 : Int32) (n : Nat) (H : Heap) (locs : List Loc) (ls : Array Slot) (x4 : Int64) (x6 : Int32), lX5_mixWhatIs_6 d x3 n x4 x6 = some (r, d') → bw_I G A s.heap (bw_xW cy b d t sl hn hs cs ln rp rn rt) H locs → lv_has ls 8 [(0, .ref (b 8 5)), (3, .int x3), (4, .long x4), (6, .int x6)] → W p l e (bw_rm 4 94) s m [.ref (b 8 5), .long p1, .int p3].toArray below meth c H locs 0 0 Q (F0 m 6 ls []) := by
    intro d x3 n
    induction n with
    | zero => intro H locs ls x4 x6 h; exact bw_none h
    | succ n ih =>
      intro H locs ls x4 x6 h hI hl
      have h : bX5_mixWhatIs_6  (lX5_mixWhatIs_6 d x3 n) d x3 x4 x6 = some (r, d') := h
      unfold bX5_mixWhatIs_6 at h
      refine lv_iload hx hb dX5_mixWhatIs_6 (lv_at hl 3 rfl) ?_
      refine lv_bipush (v := 14) hx hb dX5_mixWhatIs_8 (by decide) ?_
      refine lv_icmp_gt (tgt := 37) hx hb dX5_mixWhatIs_10 (by decide) (fun c_10 => ?_) (fun c_10 => ?_)
      · rw [if_pos c_10] at h
        refine lv_iconst (v := 0) hx hb dX5_mixWhatIs_37 rfl ?_
        refine lv_istore (lv' := [(6, .int 0), (0, .ref (b 8 5)), (3, .int x3), (4, .long x4)]) hx hb dX5_mixWhatIs_38 hl (by decide) rfl (fun ls hl => ?_)
        exact l40 d x3 bw_fu _ _ _ x4 0 h hI (lv_sub hl [1,2,3,0] rfl)
      rw [if_neg c_10] at h
      refine lv_lload hx hb dX5_mixWhatIs_13 (lv_at hl 2 rfl) ?_
      refine lv_aload_n hx hb dX5_mixWhatIs_15 rfl (lv_at hl 0 rfl) ?_
      refine bw_get S hK hI 0 0 rfl rfl (by decide) i_X5 f_X5_12 rfl dX5_mixWhatIs_16 ?_
      refine lv_iload_n hx hb dX5_mixWhatIs_19 rfl (lv_at hl 1 rfl) ?_
      refine lv_iload hx hb dX5_mixWhatIs_20 (lv_at hl 3 rfl) ?_
      obtain ⟨r22, hc, h⟩ := bw_b1_e h
      refine bw_callV S hK hZ hI (mX0_projectPart l G cy g (b 0) (d 0) (d 1) (d 2) (d 3) (d 4) (d 5 0) (d 5 1) x3 x6 r22 hc) Y_X0_projectPart V_X0_projectPart l_X5_71 ⟨(Nat.le_of_ble_eq_true rfl), (Nat.le_of_ble_eq_true rfl)⟩ (q0 := 0) rfl rfl rfl (ws' := (bw_xW cy b d t sl hn hs cs ln rp rn rt)) (bw_px_d cy b d t sl hn hs cs ln rp rn rt) (bw_px_d cy b d t sl hn hs cs ln rp rn rt).symm rfl rfl hl.1 (rest := [.long x4]) (st1 := [.int r22, .long x4]) rfl rfl (Nat.le_of_ble_eq_true rfl) dX5_mixWhatIs_22 ⟨(Nat.le_of_ble_eq_true rfl), (Nat.le_of_ble_eq_true rfl)⟩ (fun H locs hI => ?_)
      refine lv_i2l hx hb dX5_mixWhatIs_25 rfl ?_
      obtain ⟨r26, hc, h⟩ := bw_b1_e h
      refine bw_callP S hK hZ hI (mX5_mix l G cy g x4 (Int32.toInt64 r22) r26 hc) Y_X5_mix V_X5_mix l_X5_228 ⟨(Nat.le_of_ble_eq_true rfl), (Nat.le_of_ble_eq_true rfl)⟩ (rest := []) (st1 := [.long r26]) rfl hl.1 rfl rfl (Nat.le_of_ble_eq_true rfl) dX5_mixWhatIs_26 ⟨(Nat.le_of_ble_eq_true rfl), (Nat.le_of_ble_eq_true rfl)⟩ (fun H locs hI => ?_)
      refine lv_lstore (lv' := [(4, .long r26), (0, .ref (b 8 5)), (3, .int x3), (6, .int x6)]) hx hb dX5_mixWhatIs_29 hl (by decide) rfl (fun ls hl => ?_)
      obtain ⟨x6_31, e_31⟩ : ∃ y : Int32, y = x6 + 1 := ⟨_, rfl⟩
      have h := bw_let_e h e_31
      refine lv_iinc (v := x6_31) (lv' := [(6, .int x6_31), (4, .long r26), (0, .ref (b 8 5)), (3, .int x3)]) hx hb dX5_mixWhatIs_31 hl (k := 3) rfl (by rw [e_31]; rfl) (by decide) rfl (fun ls hl => ?_)
      clear e_31
      refine lv_goto (tgt := 6) hx hb dX5_mixWhatIs_34 (by decide) ?_
      exact ih _ _ _ r26 x6_31 h hI (lv_sub hl [2,3,1,0] rfl)
  unfold fX5_mixWhatIs at h
  refine lv_lload_n hx hb dX5_mixWhatIs_0 rfl (lv_at hl 1 rfl) ?_
  refine lv_lstore (lv' := [(4, .long p1), (0, .ref (b 8 5)), (1, .long p1), (3, .int p3)]) hx hb dX5_mixWhatIs_1 hl (by decide) rfl (fun ls hl => ?_)
  refine lv_iconst (v := 0) hx hb dX5_mixWhatIs_3 rfl ?_
  refine lv_istore (lv' := [(6, .int 0), (4, .long p1), (0, .ref (b 8 5)), (1, .long p1), (3, .int p3)]) hx hb dX5_mixWhatIs_4 hl (by decide) rfl (fun ls hl => ?_)
  exact l6 d p3 bw_fu _ _ _ p1 0 h hI (lv_sub hl [2,4,1,0] rfl)
set_option maxHeartbeats 4000000 in
set_option maxRecDepth 100000 in
theorem mX5_bitsOfShare (l : Launch) (G : va_G) (cy : Nat → ClassId) (g : Nat) (p0 : UInt64) (r : Int64) (h : fX5_bitsOfShare p0 = some r) : bw_M l yX5_bitsOfShare cX5_bitsOfShare 8 (some .long) 0 0 G cy g [.double p0] [] (some (.long r)) [] := by
  refine bw_ofW (by decide +kernel) RX5 rfl (Nat.le_of_ble_eq_true rfl) ?_
  intro p e s m below meth c ls S hr hlocks hK hZ hI hl
  have hx := S.1
  have hb := S.2.1
  have hown := S.2.2.2.1
  have hts := S.2.2.2.2
  generalize va_A _ s.heap.size = A at hI hZ ⊢
  generalize hQ : MQ below _ _ s 0 0 A = Q
  have hl : lv_has ls 8 [(0, .double p0)] := hl
  have j50 : ∀ (x2 : UInt64) (x4 : Int64) (H : Heap) (locs : List Loc) (ls : Array Slot), jX5_bitsOfShare_50 x2 x4 = some r → bw_I G A s.heap [] H locs → lv_has ls 8 [(2, .double x2), (4, .long x4)] → W p l e (bw_rm 0 0) s m [.double p0].toArray below meth c H locs 0 0 Q (F0 m 50 ls []) := by
    intro x2 x4 H locs ls h hI hl
    unfold jX5_bitsOfShare_50 at h
    refine lv_dload_n hx hb dX5_bitsOfShare_50 rfl (lv_at hl 0 rfl) ?_
    refine lv_dconst1 hx hb dX5_bitsOfShare_51 ?_
    obtain ⟨w52, e_52⟩ : ∃ y : UInt64, y = FP.dsub x2 FP.dconst1 := ⟨_, rfl⟩
    have h := bw_let_e h e_52
    obtain ⟨h9, h⟩ := bw_num_e h
    refine lv_dsub hx hb dX5_bitsOfShare_52 (by rw [← e_52]; exact h9) ?_
    rw [← e_52]
    refine lv_ldc2d hx hb hown (hts _ (List.mem_cons_of_mem _ k_X5_277)) dX5_bitsOfShare_53 ?_
    obtain ⟨w56, e_56⟩ : ∃ y : UInt64, y = FP.dmul w52 4841369599423283200 := ⟨_, rfl⟩
    have h := bw_let_e h e_56
    obtain ⟨h9, h⟩ := bw_num_e h
    refine lv_dmul hx hb dX5_bitsOfShare_56 (by rw [← e_56]; exact h9) ?_
    rw [← e_56]
    refine lv_d2l hx hb dX5_bitsOfShare_57 ?_
    refine lv_topl (fun x6_58 e_58 => ?_)
    have h := bw_let_e h e_58
    clear e_58
    refine lv_lstore (lv' := [(6, .long x6_58), (2, .double x2), (4, .long x4)]) hx hb dX5_bitsOfShare_58 hl (by decide) rfl (fun ls hl => ?_)
    refine lv_lload hx hb dX5_bitsOfShare_60 (lv_at hl 2 rfl) ?_
    refine lv_bipush (v := 52) hx hb dX5_bitsOfShare_62 (by decide) ?_
    refine lv_lshl hx hb dX5_bitsOfShare_64 rfl ?_
    refine lv_lload hx hb dX5_bitsOfShare_65 (lv_at hl 0 rfl) ?_
    refine lv_lor hx hb dX5_bitsOfShare_67 ?_
    exact bw_lretP S hr hlocks h hI dX5_bitsOfShare_68 hQ
  have l18 : ∀  (n : Nat) (H : Heap) (locs : List Loc) (ls : Array Slot) (x2 : UInt64) (x4 : Int64) (x6 : Int32), lX5_bitsOfShare_18  n x2 x4 x6 = some r → bw_I G A s.heap [] H locs → lv_has ls 8 [(2, .double x2), (4, .long x4), (6, .int x6)] → W p l e (bw_rm 0 0) s m [.double p0].toArray below meth c H locs 0 0 Q (F0 m 18 ls []) := by
    intro  n
    induction n with
    | zero => intro H locs ls x2 x4 x6 h; exact bw_none h
    | succ n ih =>
      intro H locs ls x2 x4 x6 h hI hl
      have h : bX5_bitsOfShare_18  (lX5_bitsOfShare_18  n)  x2 x4 x6 = some r := h
      unfold bX5_bitsOfShare_18 at h
      refine lv_iload hx hb dX5_bitsOfShare_18 (lv_at hl 2 rfl) ?_
      refine lv_sipush (v := 1022) hx hb dX5_bitsOfShare_20 (by decide) ?_
      refine lv_icmp_ge (tgt := 50) hx hb dX5_bitsOfShare_23 (by decide) (fun c_23 => ?_) (fun c_23 => ?_)
      · rw [if_pos c_23] at h
        exact j50 x2 x4 _ _ _ h hI (lv_sub hl [0,1] rfl)
      rw [if_neg c_23] at h
      refine lv_dload_n hx hb dX5_bitsOfShare_26 rfl (lv_at hl 0 rfl) ?_
      refine lv_dconst1 hx hb dX5_bitsOfShare_27 ?_
      refine lv_dcmp hx hb dX5_bitsOfShare_28 ?_
      refine lv_if_ge (tgt := 50) hx hb dX5_bitsOfShare_29 (by decide) (fun c_29 => ?_) (fun c_29 => ?_)
      · rw [if_pos c_29] at h
        exact j50 x2 x4 _ _ _ h hI (lv_sub hl [0,1] rfl)
      rw [if_neg c_29] at h
      refine lv_dload_n hx hb dX5_bitsOfShare_32 rfl (lv_at hl 0 rfl) ?_
      refine lv_ldc2d hx hb hown (hts _ (List.mem_cons_of_mem _ k_X5_275)) dX5_bitsOfShare_33 ?_
      obtain ⟨w36, e_36⟩ : ∃ y : UInt64, y = FP.dmul x2 4611686018427387904 := ⟨_, rfl⟩
      have h := bw_let_e h e_36
      obtain ⟨h9, h⟩ := bw_num_e h
      refine lv_dmul hx hb dX5_bitsOfShare_36 (by rw [← e_36]; exact h9) ?_
      rw [← e_36]
      refine lv_dstore_n (lv' := [(2, .double w36), (4, .long x4), (6, .int x6)]) hx hb dX5_bitsOfShare_37 rfl hl (by decide) rfl (fun ls hl => ?_)
      refine lv_lload hx hb dX5_bitsOfShare_38 (lv_at hl 1 rfl) ?_
      refine lv_lconst (v := 1) hx hb dX5_bitsOfShare_40 rfl ?_
      refine lv_lsub hx hb dX5_bitsOfShare_41 ?_
      refine lv_topl (fun x4_42 e_42 => ?_)
      have h := bw_let_e h e_42
      clear e_42
      refine lv_lstore (lv' := [(4, .long x4_42), (2, .double w36), (6, .int x6)]) hx hb dX5_bitsOfShare_42 hl (by decide) rfl (fun ls hl => ?_)
      obtain ⟨x6_44, e_44⟩ : ∃ y : Int32, y = x6 + 1 := ⟨_, rfl⟩
      have h := bw_let_e h e_44
      refine lv_iinc (v := x6_44) (lv' := [(6, .int x6_44), (4, .long x4_42), (2, .double w36)]) hx hb dX5_bitsOfShare_44 hl (k := 2) rfl (by rw [e_44]; rfl) (by decide) rfl (fun ls hl => ?_)
      clear e_44
      refine lv_goto (tgt := 18) hx hb dX5_bitsOfShare_47 (by decide) ?_
      exact ih _ _ _ w36 x4_42 x6_44 h hI (lv_sub hl [2,1,0] rfl)
  unfold fX5_bitsOfShare at h
  refine lv_dload_n hx hb dX5_bitsOfShare_0 rfl (lv_at hl 0 rfl) ?_
  refine lv_dconst0 hx hb dX5_bitsOfShare_1 ?_
  refine lv_dcmp hx hb dX5_bitsOfShare_2 ?_
  refine lv_if_gt (tgt := 8) hx hb dX5_bitsOfShare_3 (by decide) (fun c_3 => ?_) (fun c_3 => ?_)
  · rw [if_pos c_3] at h
    refine lv_dload_n hx hb dX5_bitsOfShare_8 rfl (lv_at hl 0 rfl) ?_
    refine lv_dstore_n (lv' := [(2, .double p0), (0, .double p0)]) hx hb dX5_bitsOfShare_9 rfl hl (by decide) rfl (fun ls hl => ?_)
    refine lv_ldc2 hx hb hown (hts _ (List.mem_cons_of_mem _ k_X5_273)) dX5_bitsOfShare_10 ?_
    refine lv_lstore (lv' := [(4, .long 1023), (2, .double p0), (0, .double p0)]) hx hb dX5_bitsOfShare_13 hl (by decide) rfl (fun ls hl => ?_)
    refine lv_iconst (v := 0) hx hb dX5_bitsOfShare_15 rfl ?_
    refine lv_istore (lv' := [(6, .int 0), (4, .long 1023), (2, .double p0), (0, .double p0)]) hx hb dX5_bitsOfShare_16 hl (by decide) rfl (fun ls hl => ?_)
    exact l18  bw_fu _ _ _ p0 1023 0 h hI (lv_sub hl [2,1,0] rfl)
  rw [if_neg c_3] at h
  refine lv_lconst (v := 0) hx hb dX5_bitsOfShare_6 rfl ?_
  exact bw_lretP S hr hlocks h hI dX5_bitsOfShare_7 hQ
