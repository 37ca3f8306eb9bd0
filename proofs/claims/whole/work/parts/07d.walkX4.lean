set_option maxHeartbeats 4000000 in
set_option maxRecDepth 100000 in
theorem mX4_length (l : Launch) (G : va_G) (cy : Nat → ClassId) (g : Nat) (b0 : Nat) (b1 : Nat) (b2 : Nat) (cs : bw_A1) (ln : Int32) (rp : Int32) (rn : Int32) (rt : Int32) (r : Int32) (h : fX4_length ln = some r) : bw_M l yX4_length cX4_length 1 (some .int) 0 0 G cy g [.ref b0] (bw_xT cy b0 b1 b2 cs ln rp rn rt) (some (.int r)) (bw_xT cy b0 b1 b2 cs ln rp rn rt) := by
  refine bw_ofW (by decide +kernel) RX4 rfl (Nat.le_of_ble_eq_true rfl) ?_
  intro p e s m below meth c ls S hr hlocks hK hZ hI hl
  have hx := S.1
  have hb := S.2.1
  have hown := S.2.2.2.1
  have hts := S.2.2.2.2
  generalize va_A _ s.heap.size = A at hI hZ ⊢
  generalize hQ : MQ below _ _ s 0 0 A = Q
  have hl : lv_has ls 1 [(0, .ref b0)] := hl
  unfold fX4_length at h
  refine lv_aload_n hx hb dX4_length_0 rfl (lv_at hl 0 rfl) ?_
  refine bw_get S hK hI 0 2 rfl rfl (by decide) i_X4 f_X4_22 rfl dX4_length_1 ?_
  exact bw_iretP S hr hlocks h hI rfl dX4_length_4 hQ
set_option maxHeartbeats 4000000 in
set_option maxRecDepth 100000 in
theorem mX4_add (l : Launch) (G : va_G) (cy : Nat → ClassId) (g : Nat) (b0 : Nat) (b1 : Nat) (b2 : Nat) (cs : bw_A1) (ln : Int32) (rp : Int32) (rn : Int32) (rt : Int32) (p1 : Int32) (cs' : bw_A1) (ln' : Int32) (h : fX4_add cs ln p1 = some (cs', ln')) : bw_M l yX4_add cX4_add 2 none 0 0 G cy g [.ref b0, .int p1] (bw_xT cy b0 b1 b2 cs ln rp rn rt) none (bw_xT cy b0 b1 b2 cs' ln' rp rn rt) := by
  refine bw_ofW (by decide +kernel) RX4 rfl (Nat.le_of_ble_eq_true rfl) ?_
  intro p e s m below meth c ls S hr hlocks hK hZ hI hl
  have hx := S.1
  have hb := S.2.1
  have hown := S.2.2.2.1
  have hts := S.2.2.2.2
  generalize va_A _ s.heap.size = A at hI hZ ⊢
  generalize hQ : MQ below _ _ s 0 0 A = Q
  have hl : lv_has ls 2 [(0, .ref b0), (1, .int p1)] := hl
  unfold fX4_add at h
  refine lv_aload_n hx hb dX4_add_0 rfl (lv_at hl 0 rfl) ?_
  refine bw_get S hK hI 0 2 rfl rfl (by decide) i_X4 f_X4_22 rfl dX4_add_1 ?_
  refine lv_if_lt (tgt := 39) hx hb dX4_add_4 (by decide) (fun c_4 => ?_) (fun c_4 => ?_)
  · rw [if_pos c_4] at h
    exact bw_vret (d := (cs, ln)) (rr := (cs', ln')) S hr hlocks h (fun q : (bw_A1 × Int32) => (bw_xT cy b0 b1 b2 q.1 q.2 rp rn rt)) hI dX4_add_39 hQ
  rw [if_neg c_4] at h
  refine lv_aload_n hx hb dX4_add_7 rfl (lv_at hl 0 rfl) ?_
  refine bw_get S hK hI 0 2 rfl rfl (by decide) i_X4 f_X4_22 rfl dX4_add_8 ?_
  refine lv_aload_n hx hb dX4_add_11 rfl (lv_at hl 0 rfl) ?_
  refine bw_get S hK hI 0 0 rfl rfl (by decide) i_X4 f_X4_9 rfl dX4_add_12 ?_
  refine bw_alen hx hb hK hI 1 (v := 60) rfl rfl dX4_add_15 ?_
  refine lv_icmp_ge (tgt := 39) hx hb dX4_add_16 (by decide) (fun c_16 => ?_) (fun c_16 => ?_)
  · rw [if_pos c_16] at h
    exact bw_vret (d := (cs, ln)) (rr := (cs', ln')) S hr hlocks h (fun q : (bw_A1 × Int32) => (bw_xT cy b0 b1 b2 q.1 q.2 rp rn rt)) hI dX4_add_39 hQ
  rw [if_neg c_16] at h
  refine lv_aload_n hx hb dX4_add_19 rfl (lv_at hl 0 rfl) ?_
  refine bw_get S hK hI 0 0 rfl rfl (by decide) i_X4 f_X4_9 rfl dX4_add_20 ?_
  refine lv_aload_n hx hb dX4_add_23 rfl (lv_at hl 0 rfl) ?_
  refine bw_get S hK hI 0 2 rfl rfl (by decide) i_X4 f_X4_22 rfl dX4_add_24 ?_
  refine lv_iload_n hx hb dX4_add_27 rfl (lv_at hl 1 rfl) ?_
  obtain ⟨cs_28, hv, h⟩ := bw_b1_e h
  refine bw_iast hx hb hK hI 1 (ws' := (bw_xT cy b0 b1 b2 cs_28 ln rp rn rt)) hv rfl rfl dX4_add_28 (fun H locs hI => ?_)
  refine lv_aload_n hx hb dX4_add_29 rfl (lv_at hl 0 rfl) ?_
  refine lv_dup hx hb dX4_add_30 rfl ?_
  refine bw_get S hK hI 0 2 rfl rfl (by decide) i_X4 f_X4_22 rfl dX4_add_31 ?_
  refine lv_iconst (v := 1) hx hb dX4_add_34 rfl ?_
  refine lv_iadd hx hb dX4_add_35 ?_
  refine lv_topi (fun ln_36 e_36 => ?_)
  have h := bw_let_e h e_36
  clear e_36
  refine bw_put S hK hI 0 2 (ws' := (bw_xT cy b0 b1 b2 cs_28 ln_36 rp rn rt)) tyX4 tyX4_ok nmX4 rfl rfl (by decide) i_X4 f_X4_22 rfl rfl rfl rfl (Nat.le_of_ble_eq_true rfl) rfl dX4_add_36 (fun H locs hI => ?_)
  exact bw_vret (d := (cs_28, ln_36)) (rr := (cs', ln')) S hr hlocks h (fun q : (bw_A1 × Int32) => (bw_xT cy b0 b1 b2 q.1 q.2 rp rn rt)) hI dX4_add_39 hQ
set_option maxHeartbeats 4000000 in
set_option maxRecDepth 100000 in
theorem mX4_wipe (l : Launch) (G : va_G) (cy : Nat → ClassId) (g : Nat) (b0 : Nat) (b1 : Nat) (b2 : Nat) (cs : bw_A1) (ln : Int32) (rp : Int32) (rn : Int32) (rt : Int32) (ln' : Int32) (h : fX4_wipe ln = some ln') : bw_M l yX4_wipe cX4_wipe 1 none 0 0 G cy g [.ref b0] (bw_xT cy b0 b1 b2 cs ln rp rn rt) none (bw_xT cy b0 b1 b2 cs ln' rp rn rt) := by
  refine bw_ofW (by decide +kernel) RX4 rfl (Nat.le_of_ble_eq_true rfl) ?_
  intro p e s m below meth c ls S hr hlocks hK hZ hI hl
  have hx := S.1
  have hb := S.2.1
  have hown := S.2.2.2.1
  have hts := S.2.2.2.2
  generalize va_A _ s.heap.size = A at hI hZ ⊢
  generalize hQ : MQ below _ _ s 0 0 A = Q
  have hl : lv_has ls 1 [(0, .ref b0)] := hl
  unfold fX4_wipe at h
  refine lv_aload_n hx hb dX4_wipe_0 rfl (lv_at hl 0 rfl) ?_
  refine lv_iconst (v := 0) hx hb dX4_wipe_1 rfl ?_
  refine bw_put S hK hI 0 2 (ws' := (bw_xT cy b0 b1 b2 cs 0 rp rn rt)) tyX4 tyX4_ok nmX4 rfl rfl (by decide) i_X4 f_X4_22 rfl rfl rfl rfl (Nat.le_of_ble_eq_true rfl) rfl dX4_wipe_2 (fun H locs hI => ?_)
  exact bw_vret (d := 0) (rr := ln') S hr hlocks h (fun q : Int32 => (bw_xT cy b0 b1 b2 cs q rp rn rt)) hI dX4_wipe_5 hQ
set_option maxHeartbeats 4000000 in
set_option maxRecDepth 100000 in
theorem mX4_codeAt (l : Launch) (G : va_G) (cy : Nat → ClassId) (g : Nat) (b0 : Nat) (b1 : Nat) (b2 : Nat) (cs : bw_A1) (ln : Int32) (rp : Int32) (rn : Int32) (rt : Int32) (p1 : Int32) (r : Int32) (h : fX4_codeAt cs p1 = some r) : bw_M l yX4_codeAt cX4_codeAt 2 (some .int) 0 0 G cy g [.ref b0, .int p1] (bw_xT cy b0 b1 b2 cs ln rp rn rt) (some (.int r)) (bw_xT cy b0 b1 b2 cs ln rp rn rt) := by
  refine bw_ofW (by decide +kernel) RX4 rfl (Nat.le_of_ble_eq_true rfl) ?_
  intro p e s m below meth c ls S hr hlocks hK hZ hI hl
  have hx := S.1
  have hb := S.2.1
  have hown := S.2.2.2.1
  have hts := S.2.2.2.2
  generalize va_A _ s.heap.size = A at hI hZ ⊢
  generalize hQ : MQ below _ _ s 0 0 A = Q
  have hl : lv_has ls 2 [(0, .ref b0), (1, .int p1)] := hl
  have j22 : ∀  (H : Heap) (locs : List Loc) (ls : Array Slot), jX4_codeAt_22 cs = some r → bw_I G A s.heap (bw_xT cy b0 b1 b2 cs ln rp rn rt) H locs → lv_has ls 2 [] → W p l e (bw_rm 0 0) s m [.ref b0, .int p1].toArray below meth c H locs 0 0 Q (F0 m 22 ls []) := by
    intro  H locs ls h hI hl
    unfold jX4_codeAt_22 at h
    refine lv_iconst (v := 0) hx hb dX4_codeAt_22 rfl ?_
    exact bw_iretP S hr hlocks h hI rfl dX4_codeAt_23 hQ
  unfold fX4_codeAt at h
  refine lv_iload_n hx hb dX4_codeAt_0 rfl (lv_at hl 1 rfl) ?_
  refine lv_if_lt (tgt := 22) hx hb dX4_codeAt_1 (by decide) (fun c_1 => ?_) (fun c_1 => ?_)
  · rw [if_pos c_1] at h
    exact j22  _ _ _ h hI (lv_sub hl [] rfl)
  rw [if_neg c_1] at h
  refine lv_iload_n hx hb dX4_codeAt_4 rfl (lv_at hl 1 rfl) ?_
  refine lv_aload_n hx hb dX4_codeAt_5 rfl (lv_at hl 0 rfl) ?_
  refine bw_get S hK hI 0 0 rfl rfl (by decide) i_X4 f_X4_9 rfl dX4_codeAt_6 ?_
  refine bw_alen hx hb hK hI 1 (v := 60) rfl rfl dX4_codeAt_9 ?_
  refine lv_icmp_ge (tgt := 22) hx hb dX4_codeAt_10 (by decide) (fun c_10 => ?_) (fun c_10 => ?_)
  · rw [if_pos c_10] at h
    exact j22  _ _ _ h hI (lv_sub hl [] rfl)
  rw [if_neg c_10] at h
  refine lv_aload_n hx hb dX4_codeAt_13 rfl (lv_at hl 0 rfl) ?_
  refine bw_get S hK hI 0 0 rfl rfl (by decide) i_X4 f_X4_9 rfl dX4_codeAt_14 ?_
  refine lv_iload_n hx hb dX4_codeAt_17 rfl (lv_at hl 1 rfl) ?_
  obtain ⟨v18, hv, h⟩ := bw_b1_e h
  refine bw_iald hx hb hK hI 1 hv rfl dX4_codeAt_18 ?_
  refine lv_goto (tgt := 23) hx hb dX4_codeAt_19 (by decide) ?_
  exact bw_iretP S hr hlocks h hI rfl dX4_codeAt_23 hQ
set_option maxHeartbeats 4000000 in
set_option maxRecDepth 100000 in
theorem mX4_firstFault (l : Launch) (G : va_G) (cy : Nat → ClassId) (g : Nat) (b0 : Nat) (b1 : Nat) (b2 : Nat) (cs : bw_A1) (ln : Int32) (rp : Int32) (rn : Int32) (rt : Int32) (r : Int32) (rp' : Int32) (rn' : Int32) (rt' : Int32) (h : fX4_firstFault cs ln rp rn rt = some (r, rp', rn', rt')) : bw_M l yX4_firstFault cX4_firstFault 2 (some .int) 3 63 G cy g [.ref b0] (bw_xT cy b0 b1 b2 cs ln rp rn rt) (some (.int r)) (bw_xT cy b0 b1 b2 cs ln rp' rn' rt') := by
  refine bw_ofW (by decide +kernel) RX4 rfl (Nat.le_of_ble_eq_true rfl) ?_
  intro p e s m below meth c ls S hr hlocks hK hZ hI hl
  have hx := S.1
  have hb := S.2.1
  have hown := S.2.2.2.1
  have hts := S.2.2.2.2
  generalize va_A _ s.heap.size = A at hI hZ ⊢
  generalize hQ : MQ below _ _ s 0 0 A = Q
  have hl : lv_has ls 2 [(0, .ref b0)] := hl
  have l9 : ∀  (n : Nat) (H : Heap) (locs : List Loc) (ls : Array Slot) (rp : Int32) (rn : Int32) (rt : Int32) (x1 : Int32), lX4_firstFault_9 cs ln n rp rn rt x1 = some (r, rp', rn', rt') → bw_I G A s.heap (bw_xT cy b0 b1 b2 cs ln rp rn rt) H locs → lv_has ls 2 [(0, .ref b0), (1, .int x1)] → W p l e (bw_rm 3 63) s m [.ref b0].toArray below meth c H locs 0 0 Q (F0 m 9 ls []) := by
    intro  n
    induction n with
    | zero => intro H locs ls rp rn rt x1 h; exact bw_none h
    | succ n ih =>
      intro H locs ls rp rn rt x1 h hI hl
      have h : bX4_firstFault_9  (lX4_firstFault_9 cs ln n) cs ln rp rn rt x1 = some (r, rp', rn', rt') := h
      unfold bX4_firstFault_9 at h
      refine lv_iload_n hx hb dX4_firstFault_9 rfl (lv_at hl 1 rfl) ?_
      refine lv_aload_n hx hb dX4_firstFault_10 rfl (lv_at hl 0 rfl) ?_
      refine bw_get S hK hI 0 2 rfl rfl (by decide) i_X4 f_X4_22 rfl dX4_firstFault_11 ?_
      refine lv_icmp_ge (tgt := 40) hx hb dX4_firstFault_14 (by decide) (fun c_14 => ?_) (fun c_14 => ?_)
      · rw [if_pos c_14] at h
        refine lv_aload_n hx hb dX4_firstFault_40 rfl (lv_at hl 0 rfl) ?_
        refine bw_get S hK hI 0 2 rfl rfl (by decide) i_X4 f_X4_22 rfl dX4_firstFault_41 ?_
        exact bw_iret (d := (rp, rn, rt)) (rr := (r, rp', rn', rt')) S hr hlocks h (fun q : (Int32 × Int32 × Int32) => (bw_xT cy b0 b1 b2 cs ln q.1 q.2.1 q.2.2)) hI rfl dX4_firstFault_44 hQ
      rw [if_neg c_14] at h
      refine lv_aload_n hx hb dX4_firstFault_17 rfl (lv_at hl 0 rfl) ?_
      refine bw_get S hK hI 0 1 rfl rfl (by decide) i_X4 f_X4_18 rfl dX4_firstFault_18 ?_
      refine lv_aload_n hx hb dX4_firstFault_21 rfl (lv_at hl 0 rfl) ?_
      refine lv_iload_n hx hb dX4_firstFault_22 rfl (lv_at hl 1 rfl) ?_
      obtain ⟨r23, hc, h⟩ := bw_b1_e h
      refine bw_callV S hK hZ hI (mX4_codeAt l G cy g b0 b1 b2 cs ln rp rn rt x1 r23 hc) Y_X4_codeAt V_X4_codeAt l_X4_29 ⟨(Nat.le_of_ble_eq_true rfl), (Nat.le_of_ble_eq_true rfl)⟩ (q0 := 0) rfl rfl rfl (ws' := (bw_xT cy b0 b1 b2 cs ln rp rn rt)) (bw_pS _) (bw_pS' _) rfl rfl hl.1 (rest := [.ref b2]) (st1 := [.int r23, .ref b2]) rfl rfl (Nat.le_of_ble_eq_true rfl) dX4_firstFault_23 ⟨(Nat.le_of_ble_eq_true rfl), (Nat.le_of_ble_eq_true rfl)⟩ (fun H locs hI => ?_)
      obtain ⟨r26, rp_26, rn_26, rt_26, hc, h⟩ := bw_b4_e h
      refine bw_callV S hK hZ hI (mX2_takes l G cy g b2 rp rn rt r23 r26 rp_26 rn_26 rt_26 hc) Y_X2_takes V_X2_takes l_X4_33 ⟨(Nat.le_of_ble_eq_true rfl), (Nat.le_of_ble_eq_true rfl)⟩ (q0 := 0) rfl rfl rfl (ws' := (bw_xT cy b0 b1 b2 cs ln rp_26 rn_26 rt_26)) (bw_pt0 cy b0 b1 b2 cs ln rp rn rt) (bw_pt0 cy b0 b1 b2 cs ln rp_26 rn_26 rt_26).symm rfl rfl hl.1 (rest := []) (st1 := [.int r26]) rfl rfl (Nat.le_of_ble_eq_true rfl) dX4_firstFault_26 ⟨(Nat.le_of_ble_eq_true rfl), (Nat.le_of_ble_eq_true rfl)⟩ (fun H locs hI => ?_)
      refine lv_if_ne (tgt := 34) hx hb dX4_firstFault_29 (by decide) (fun c_29 => ?_) (fun c_29 => ?_)
      · rw [if_neg c_29] at h
        obtain ⟨x1_34, e_34⟩ : ∃ y : Int32, y = x1 + 1 := ⟨_, rfl⟩
        have h := bw_let_e h e_34
        refine lv_iinc (v := x1_34) (lv' := [(1, .int x1_34), (0, .ref b0)]) hx hb dX4_firstFault_34 hl (k := 1) rfl (by rw [e_34]; rfl) (by decide) rfl (fun ls hl => ?_)
        clear e_34
        refine lv_goto (tgt := 9) hx hb dX4_firstFault_37 (by decide) ?_
        exact ih _ _ _ rp_26 rn_26 rt_26 x1_34 h hI (lv_sub hl [1,0] rfl)
      rw [if_pos c_29] at h
      refine lv_iload_n hx hb dX4_firstFault_32 rfl (lv_at hl 1 rfl) ?_
      exact bw_iret (d := (rp_26, rn_26, rt_26)) (rr := (r, rp', rn', rt')) S hr hlocks h (fun q : (Int32 × Int32 × Int32) => (bw_xT cy b0 b1 b2 cs ln q.1 q.2.1 q.2.2)) hI rfl dX4_firstFault_33 hQ
  unfold fX4_firstFault at h
  refine lv_aload_n hx hb dX4_firstFault_0 rfl (lv_at hl 0 rfl) ?_
  refine bw_get S hK hI 0 1 rfl rfl (by decide) i_X4 f_X4_18 rfl dX4_firstFault_1 ?_
  obtain ⟨rp_4, rn_4, hc, h⟩ := bw_b2_e h
  refine bw_callV S hK hZ hI (mX2_start l G cy g b2 rp rn rt rp_4 rn_4 hc) Y_X2_start V_X2_start l_X4_26 ⟨(Nat.le_of_ble_eq_true rfl), (Nat.le_of_ble_eq_true rfl)⟩ (q0 := 0) rfl rfl rfl (ws' := (bw_xT cy b0 b1 b2 cs ln rp_4 rn_4 rt)) (bw_pt0 cy b0 b1 b2 cs ln rp rn rt) (bw_pt0 cy b0 b1 b2 cs ln rp_4 rn_4 rt).symm rfl rfl hl.1 (rest := []) (st1 := []) rfl rfl (Nat.le_of_ble_eq_true rfl) dX4_firstFault_4 ⟨(Nat.le_of_ble_eq_true rfl), (Nat.le_of_ble_eq_true rfl)⟩ (fun H locs hI => ?_)
  refine lv_iconst (v := 0) hx hb dX4_firstFault_7 rfl ?_
  refine lv_istore_n (lv' := [(1, .int 0), (0, .ref b0)]) hx hb dX4_firstFault_8 rfl hl (by decide) rfl (fun ls hl => ?_)
  exact l9  bw_fu _ _ _ rp_4 rn_4 rt 0 h hI (lv_sub hl [1,0] rfl)
set_option maxHeartbeats 4000000 in
set_option maxRecDepth 100000 in
theorem mX4_isWholePlan (l : Launch) (G : va_G) (cy : Nat → ClassId) (g : Nat) (b0 : Nat) (b1 : Nat) (b2 : Nat) (cs : bw_A1) (ln : Int32) (rp : Int32) (rn : Int32) (rt : Int32) (r : Int32) (rp' : Int32) (rn' : Int32) (rt' : Int32) (h : fX4_isWholePlan cs ln rp rn rt = some (r, rp', rn', rt')) : bw_M l yX4_isWholePlan cX4_isWholePlan 1 (some .boolean) 4 84 G cy g [.ref b0] (bw_xT cy b0 b1 b2 cs ln rp rn rt) (some (.int r)) (bw_xT cy b0 b1 b2 cs ln rp' rn' rt') := by
  refine bw_ofW (by decide +kernel) RX4 rfl (Nat.le_of_ble_eq_true rfl) ?_
  intro p e s m below meth c ls S hr hlocks hK hZ hI hl
  have hx := S.1
  have hb := S.2.1
  have hown := S.2.2.2.1
  have hts := S.2.2.2.2
  generalize va_A _ s.heap.size = A at hI hZ ⊢
  generalize hQ : MQ below _ _ s 0 0 A = Q
  have hl : lv_has ls 1 [(0, .ref b0)] := hl
  have j25 : ∀ (rp : Int32) (rn : Int32) (rt : Int32) (H : Heap) (locs : List Loc) (ls : Array Slot), jX4_isWholePlan_25 cs ln rp rn rt = some (r, rp', rn', rt') → bw_I G A s.heap (bw_xT cy b0 b1 b2 cs ln rp rn rt) H locs → lv_has ls 1 [] → W p l e (bw_rm 4 84) s m [.ref b0].toArray below meth c H locs 0 0 Q (F0 m 25 ls []) := by
    intro rp rn rt H locs ls h hI hl
    unfold jX4_isWholePlan_25 at h
    refine lv_iconst (v := 0) hx hb dX4_isWholePlan_25 rfl ?_
    exact bw_iret (d := (rp, rn, rt)) (rr := (r, rp', rn', rt')) S hr hlocks h (fun q : (Int32 × Int32 × Int32) => (bw_xT cy b0 b1 b2 cs ln q.1 q.2.1 q.2.2)) hI rfl dX4_isWholePlan_26 hQ
  unfold fX4_isWholePlan at h
  refine lv_aload_n hx hb dX4_isWholePlan_0 rfl (lv_at hl 0 rfl) ?_
  obtain ⟨r1, rp_1, rn_1, rt_1, hc, h⟩ := bw_b4_e h
  refine bw_callV S hK hZ hI (mX4_firstFault l G cy g b0 b1 b2 cs ln rp rn rt r1 rp_1 rn_1 rt_1 hc) Y_X4_firstFault V_X4_firstFault l_X4_37 ⟨(Nat.le_of_ble_eq_true rfl), (Nat.le_of_ble_eq_true rfl)⟩ (q0 := 0) rfl rfl rfl (ws' := (bw_xT cy b0 b1 b2 cs ln rp_1 rn_1 rt_1)) (bw_pS _) (bw_pS' _) rfl rfl hl.1 (rest := []) (st1 := [.int r1]) rfl rfl (Nat.le_of_ble_eq_true rfl) dX4_isWholePlan_1 ⟨(Nat.le_of_ble_eq_true rfl), (Nat.le_of_ble_eq_true rfl)⟩ (fun H locs hI => ?_)
  refine lv_aload_n hx hb dX4_isWholePlan_4 rfl (lv_at hl 0 rfl) ?_
  refine bw_get S hK hI 0 2 rfl rfl (by decide) i_X4 f_X4_22 rfl dX4_isWholePlan_5 ?_
  refine lv_icmp_ne (tgt := 25) hx hb dX4_isWholePlan_8 (by decide) (fun c_8 => ?_) (fun c_8 => ?_)
  · rw [if_neg c_8] at h
    exact j25 rp_1 rn_1 rt_1 _ _ _ h hI (lv_sub hl [] rfl)
  rw [if_pos c_8] at h
  refine lv_aload_n hx hb dX4_isWholePlan_11 rfl (lv_at hl 0 rfl) ?_
  refine bw_get S hK hI 0 1 rfl rfl (by decide) i_X4 f_X4_18 rfl dX4_isWholePlan_12 ?_
  obtain ⟨r15, hc, h⟩ := bw_b1_e h
  refine bw_callV S hK hZ hI (mX2_isAtEndOfPlan l G cy g b2 rp_1 rn_1 rt_1 r15 hc) Y_X2_isAtEndOfPlan V_X2_isAtEndOfPlan l_X4_41 ⟨(Nat.le_of_ble_eq_true rfl), (Nat.le_of_ble_eq_true rfl)⟩ (q0 := 0) rfl rfl rfl (ws' := (bw_xT cy b0 b1 b2 cs ln rp_1 rn_1 rt_1)) (bw_pt0 cy b0 b1 b2 cs ln rp_1 rn_1 rt_1) (bw_pt0 cy b0 b1 b2 cs ln rp_1 rn_1 rt_1).symm rfl rfl hl.1 (rest := []) (st1 := [.int r15]) rfl rfl (Nat.le_of_ble_eq_true rfl) dX4_isWholePlan_15 ⟨(Nat.le_of_ble_eq_true rfl), (Nat.le_of_ble_eq_true rfl)⟩ (fun H locs hI => ?_)
  refine lv_if_eq (tgt := 25) hx hb dX4_isWholePlan_18 (by decide) (fun c_18 => ?_) (fun c_18 => ?_)
  · rw [if_pos c_18] at h
    exact j25 rp_1 rn_1 rt_1 _ _ _ h hI (lv_sub hl [] rfl)
  rw [if_neg c_18] at h
  refine lv_iconst (v := 1) hx hb dX4_isWholePlan_21 rfl ?_
  refine lv_goto (tgt := 26) hx hb dX4_isWholePlan_22 (by decide) ?_
  exact bw_iret (d := (rp_1, rn_1, rt_1)) (rr := (r, rp', rn', rt')) S hr hlocks h (fun q : (Int32 × Int32 × Int32) => (bw_xT cy b0 b1 b2 cs ln q.1 q.2.1 q.2.2)) hI rfl dX4_isWholePlan_26 hQ
set_option maxHeartbeats 4000000 in
set_option maxRecDepth 100000 in
theorem mX4_projectsInPlan (l : Launch) (G : va_G) (cy : Nat → ClassId) (g : Nat) (b0 : Nat) (b1 : Nat) (b2 : Nat) (cs : bw_A1) (ln : Int32) (rp : Int32) (rn : Int32) (rt : Int32) (r : Int32) (h : fX4_projectsInPlan cs ln = some r) : bw_M l yX4_projectsInPlan cX4_projectsInPlan 3 (some .int) 1 21 G cy g [.ref b0] (bw_xT cy b0 b1 b2 cs ln rp rn rt) (some (.int r)) (bw_xT cy b0 b1 b2 cs ln rp rn rt) := by
  refine bw_ofW (by decide +kernel) RX4 rfl (Nat.le_of_ble_eq_true rfl) ?_
  intro p e s m below meth c ls S hr hlocks hK hZ hI hl
  have hx := S.1
  have hb := S.2.1
  have hown := S.2.2.2.1
  have hts := S.2.2.2.2
  generalize va_A _ s.heap.size = A at hI hZ ⊢
  generalize hQ : MQ below _ _ s 0 0 A = Q
  have hl : lv_has ls 3 [(0, .ref b0)] := hl
  have j25 : ∀ (x1 : Int32) (x2 : Int32) (k4 : Int32 → Int32 → Option Int32) (hk4 : ∀ (H : Heap) (locs : List Loc) (ls : Array Slot) (x1_ : Int32) (x2_ : Int32), k4 x1_ x2_ = some r → bw_I G A s.heap (bw_xT cy b0 b1 b2 cs ln rp rn rt) H locs → lv_has ls 3 [(0, .ref b0), (1, .int x1_), (2, .int x2_)] → W p l e (bw_rm 1 21) s m [.ref b0].toArray below meth c H locs 0 0 Q (F0 m 4 ls [])) (H : Heap) (locs : List Loc) (ls : Array Slot), jX4_projectsInPlan_25 k4 cs ln x1 x2 = some r → bw_I G A s.heap (bw_xT cy b0 b1 b2 cs ln rp rn rt) H locs → lv_has ls 3 [(0, .ref b0), (1, .int x1), (2, .int x2)] → W p l e (bw_rm 1 21) s m [.ref b0].toArray below meth c H locs 0 0 Q (F0 m 25 ls []) := by
    intro x1 x2 k4 hk4 H locs ls h hI hl
    unfold jX4_projectsInPlan_25 at h
    obtain ⟨x2_25, e_25⟩ : ∃ y : Int32, y = x2 + 1 := ⟨_, rfl⟩
    have h := bw_let_e h e_25
    refine lv_iinc (v := x2_25) (lv' := [(2, .int x2_25), (0, .ref b0), (1, .int x1)]) hx hb dX4_projectsInPlan_25 hl (k := 2) rfl (by rw [e_25]; rfl) (by decide) rfl (fun ls hl => ?_)
    clear e_25
    refine lv_goto (tgt := 4) hx hb dX4_projectsInPlan_28 (by decide) ?_
    exact hk4 _ _ _ x1 x2_25 h hI (lv_sub hl [1,2,0] rfl)
  have l4 : ∀  (n : Nat) (H : Heap) (locs : List Loc) (ls : Array Slot) (x1 : Int32) (x2 : Int32), lX4_projectsInPlan_4 cs ln n x1 x2 = some r → bw_I G A s.heap (bw_xT cy b0 b1 b2 cs ln rp rn rt) H locs → lv_has ls 3 [(0, .ref b0), (1, .int x1), (2, .int x2)] → W p l e (bw_rm 1 21) s m [.ref b0].toArray below meth c H locs 0 0 Q (F0 m 4 ls []) := by
    intro  n
    induction n with
    | zero => intro H locs ls x1 x2 h; exact bw_none h
    | succ n ih =>
      intro H locs ls x1 x2 h hI hl
      have h : bX4_projectsInPlan_4  (lX4_projectsInPlan_4 cs ln n) cs ln x1 x2 = some r := h
      unfold bX4_projectsInPlan_4 at h
      refine lv_iload_n hx hb dX4_projectsInPlan_4 rfl (lv_at hl 2 rfl) ?_
      refine lv_aload_n hx hb dX4_projectsInPlan_5 rfl (lv_at hl 0 rfl) ?_
      refine bw_get S hK hI 0 2 rfl rfl (by decide) i_X4 f_X4_22 rfl dX4_projectsInPlan_6 ?_
      refine lv_icmp_ge (tgt := 31) hx hb dX4_projectsInPlan_9 (by decide) (fun c_9 => ?_) (fun c_9 => ?_)
      · rw [if_pos c_9] at h
        refine lv_iload_n hx hb dX4_projectsInPlan_31 rfl (lv_at hl 1 rfl) ?_
        exact bw_iretP S hr hlocks h hI rfl dX4_projectsInPlan_32 hQ
      rw [if_neg c_9] at h
      refine lv_aload_n hx hb dX4_projectsInPlan_12 rfl (lv_at hl 0 rfl) ?_
      refine lv_iload_n hx hb dX4_projectsInPlan_13 rfl (lv_at hl 2 rfl) ?_
      obtain ⟨r14, hc, h⟩ := bw_b1_e h
      refine bw_callV S hK hZ hI (mX4_codeAt l G cy g b0 b1 b2 cs ln rp rn rt x2 r14 hc) Y_X4_codeAt V_X4_codeAt l_X4_29 ⟨(Nat.le_of_ble_eq_true rfl), (Nat.le_of_ble_eq_true rfl)⟩ (q0 := 0) rfl rfl rfl (ws' := (bw_xT cy b0 b1 b2 cs ln rp rn rt)) (bw_pS _) (bw_pS' _) rfl rfl hl.1 (rest := []) (st1 := [.int r14]) rfl rfl (Nat.le_of_ble_eq_true rfl) dX4_projectsInPlan_14 ⟨(Nat.le_of_ble_eq_true rfl), (Nat.le_of_ble_eq_true rfl)⟩ (fun H locs hI => ?_)
      refine lv_bipush (v := 59) hx hb dX4_projectsInPlan_17 (by decide) ?_
      refine lv_icmp_ne (tgt := 25) hx hb dX4_projectsInPlan_19 (by decide) (fun c_19 => ?_) (fun c_19 => ?_)
      · rw [if_neg c_19] at h
        exact j25 x1 x2 (lX4_projectsInPlan_4 cs ln n) ih _ _ _ h hI (lv_sub hl [0,1,2] rfl)
      rw [if_pos c_19] at h
      obtain ⟨x1_22, e_22⟩ : ∃ y : Int32, y = x1 + 1 := ⟨_, rfl⟩
      have h := bw_let_e h e_22
      refine lv_iinc (v := x1_22) (lv' := [(1, .int x1_22), (0, .ref b0), (2, .int x2)]) hx hb dX4_projectsInPlan_22 hl (k := 1) rfl (by rw [e_22]; rfl) (by decide) rfl (fun ls hl => ?_)
      clear e_22
      exact j25 x1_22 x2 (lX4_projectsInPlan_4 cs ln n) ih _ _ _ h hI (lv_sub hl [1,0,2] rfl)
  unfold fX4_projectsInPlan at h
  refine lv_iconst (v := 1) hx hb dX4_projectsInPlan_0 rfl ?_
  refine lv_istore_n (lv' := [(1, .int 1), (0, .ref b0)]) hx hb dX4_projectsInPlan_1 rfl hl (by decide) rfl (fun ls hl => ?_)
  refine lv_iconst (v := 0) hx hb dX4_projectsInPlan_2 rfl ?_
  refine lv_istore_n (lv' := [(2, .int 0), (1, .int 1), (0, .ref b0)]) hx hb dX4_projectsInPlan_3 rfl hl (by decide) rfl (fun ls hl => ?_)
  exact l4  bw_fu _ _ _ 1 0 h hI (lv_sub hl [2,1,0] rfl)
