set_option maxHeartbeats 4000000 in
set_option maxRecDepth 100000 in
theorem mX2_begin (l : Launch) (G : va_G) (cy : Nat → ClassId) (g : Nat) (b0 : Nat) (rp : Int32) (rn : Int32) (rt : Int32) (p1 : Int32) (rp' : Int32) (rn' : Int32) (h : fX2_begin rp rn p1 = some (rp', rn')) : bw_M l yX2_begin cX2_begin 2 none 0 0 G cy g [.ref b0, .int p1] (bw_rW b0 rp rn rt) none (bw_rW b0 rp' rn' rt) := by
  refine bw_ofW (by decide +kernel) RX2 rfl (Nat.le_of_ble_eq_true rfl) ?_
  intro p e s m below meth c ls S hr hlocks hK hZ hI hl
  have hx := S.1
  have hb := S.2.1
  have hown := S.2.2.2.1
  have hts := S.2.2.2.2
  generalize va_A _ s.heap.size = A at hI hZ ⊢
  generalize hQ : MQ below _ _ s 0 0 A = Q
  have hl : lv_has ls 2 [(0, .ref b0), (1, .int p1)] := hl
  unfold fX2_begin at h
  refine lv_aload_n hx hb dX2_begin_0 rfl (lv_at hl 0 rfl) ?_
  refine lv_iload_n hx hb dX2_begin_1 rfl (lv_at hl 1 rfl) ?_
  refine bw_put S hK hI 0 0 (ws' := (bw_rW b0 p1 rn rt)) tyX2 tyX2_ok nmX2 rfl rfl (by decide) i_X2 f_X2_29 rfl rfl rfl rfl (Nat.le_of_ble_eq_true rfl) rfl dX2_begin_2 (fun H locs hI => ?_)
  refine lv_aload_n hx hb dX2_begin_5 rfl (lv_at hl 0 rfl) ?_
  refine lv_iconst (v := (-1)) hx hb dX2_begin_6 rfl ?_
  refine bw_put S hK hI 0 1 (ws' := (bw_rW b0 p1 (-1) rt)) tyX2 tyX2_ok nmX2 rfl rfl (by decide) i_X2 f_X2_22 rfl rfl rfl rfl (Nat.le_of_ble_eq_true rfl) rfl dX2_begin_7 (fun H locs hI => ?_)
  exact bw_vret (d := (p1, (-1))) (rr := (rp', rn')) S hr hlocks h (fun q : (Int32 × Int32) => (bw_rW b0 q.1 q.2 rt)) hI dX2_begin_10 hQ
set_option maxHeartbeats 4000000 in
set_option maxRecDepth 100000 in
theorem mX2_start (l : Launch) (G : va_G) (cy : Nat → ClassId) (g : Nat) (b0 : Nat) (rp : Int32) (rn : Int32) (rt : Int32) (rp' : Int32) (rn' : Int32) (h : fX2_start rp rn = some (rp', rn')) : bw_M l yX2_start cX2_start 1 none 1 21 G cy g [.ref b0] (bw_rW b0 rp rn rt) none (bw_rW b0 rp' rn' rt) := by
  refine bw_ofW (by decide +kernel) RX2 rfl (Nat.le_of_ble_eq_true rfl) ?_
  intro p e s m below meth c ls S hr hlocks hK hZ hI hl
  have hx := S.1
  have hb := S.2.1
  have hown := S.2.2.2.1
  have hts := S.2.2.2.2
  generalize va_A _ s.heap.size = A at hI hZ ⊢
  generalize hQ : MQ below _ _ s 0 0 A = Q
  have hl : lv_has ls 1 [(0, .ref b0)] := hl
  unfold fX2_start at h
  refine lv_aload_n hx hb dX2_start_0 rfl (lv_at hl 0 rfl) ?_
  refine lv_iconst (v := 0) hx hb dX2_start_1 rfl ?_
  obtain ⟨rp_2, rn_2, hc, h⟩ := bw_b2_e h
  refine bw_callV S hK hZ hI (mX2_begin l G cy g b0 rp rn rt 0 rp_2 rn_2 hc) Y_X2_begin V_X2_begin l_X2_11 ⟨(Nat.le_of_ble_eq_true rfl), (Nat.le_of_ble_eq_true rfl)⟩ (q0 := 0) rfl rfl rfl (ws' := (bw_rW b0 rp_2 rn_2 rt)) (bw_pS _) (bw_pS' _) rfl rfl hl.1 (rest := []) (st1 := []) rfl rfl (Nat.le_of_ble_eq_true rfl) dX2_start_2 ⟨(Nat.le_of_ble_eq_true rfl), (Nat.le_of_ble_eq_true rfl)⟩ (fun H locs hI => ?_)
  exact bw_vret (d := (rp_2, rn_2)) (rr := (rp', rn')) S hr hlocks h (fun q : (Int32 × Int32) => (bw_rW b0 q.1 q.2 rt)) hI dX2_start_5 hQ
set_option maxHeartbeats 4000000 in
set_option maxRecDepth 100000 in
theorem mX2_isDigit (l : Launch) (G : va_G) (cy : Nat → ClassId) (g : Nat) (p0 : Int32) (r : Int32) (h : fX2_isDigit p0 = some r) : bw_M l yX2_isDigit cX2_isDigit 1 (some .boolean) 0 0 G cy g [.int p0] [] (some (.int r)) [] := by
  refine bw_ofW (by decide +kernel) RX2 rfl (Nat.le_of_ble_eq_true rfl) ?_
  intro p e s m below meth c ls S hr hlocks hK hZ hI hl
  have hx := S.1
  have hb := S.2.1
  have hown := S.2.2.2.1
  have hts := S.2.2.2.2
  generalize va_A _ s.heap.size = A at hI hZ ⊢
  generalize hQ : MQ below _ _ s 0 0 A = Q
  have hl : lv_has ls 1 [(0, .int p0)] := hl
  have j16 : ∀  (H : Heap) (locs : List Loc) (ls : Array Slot), jX2_isDigit_16  = some r → bw_I G A s.heap [] H locs → lv_has ls 1 [] → W p l e (bw_rm 0 0) s m [.int p0].toArray below meth c H locs 0 0 Q (F0 m 16 ls []) := by
    intro  H locs ls h hI hl
    unfold jX2_isDigit_16 at h
    refine lv_iconst (v := 0) hx hb dX2_isDigit_16 rfl ?_
    exact bw_iretP S hr hlocks h hI rfl dX2_isDigit_17 hQ
  unfold fX2_isDigit at h
  refine lv_iload_n hx hb dX2_isDigit_0 rfl (lv_at hl 0 rfl) ?_
  refine lv_bipush (v := 48) hx hb dX2_isDigit_1 (by decide) ?_
  refine lv_icmp_lt (tgt := 16) hx hb dX2_isDigit_3 (by decide) (fun c_3 => ?_) (fun c_3 => ?_)
  · rw [if_pos c_3] at h
    exact j16  _ _ _ h hI (lv_sub hl [] rfl)
  rw [if_neg c_3] at h
  refine lv_iload_n hx hb dX2_isDigit_6 rfl (lv_at hl 0 rfl) ?_
  refine lv_bipush (v := 57) hx hb dX2_isDigit_7 (by decide) ?_
  refine lv_icmp_gt (tgt := 16) hx hb dX2_isDigit_9 (by decide) (fun c_9 => ?_) (fun c_9 => ?_)
  · rw [if_pos c_9] at h
    exact j16  _ _ _ h hI (lv_sub hl [] rfl)
  rw [if_neg c_9] at h
  refine lv_iconst (v := 1) hx hb dX2_isDigit_12 rfl ?_
  refine lv_goto (tgt := 17) hx hb dX2_isDigit_13 (by decide) ?_
  exact bw_iretP S hr hlocks h hI rfl dX2_isDigit_17 hQ
set_option maxHeartbeats 4000000 in
set_option maxRecDepth 100000 in
theorem mX2_leastNumber (l : Launch) (G : va_G) (cy : Nat → ClassId) (g : Nat) (b0 : Nat) (rp : Int32) (rn : Int32) (rt : Int32) (r : Int32) (h : fX2_leastNumber rp = some r) : bw_M l yX2_leastNumber cX2_leastNumber 1 (some .int) 0 0 G cy g [.ref b0] (bw_rW b0 rp rn rt) (some (.int r)) (bw_rW b0 rp rn rt) := by
  refine bw_ofW (by decide +kernel) RX2 rfl (Nat.le_of_ble_eq_true rfl) ?_
  intro p e s m below meth c ls S hr hlocks hK hZ hI hl
  have hx := S.1
  have hb := S.2.1
  have hown := S.2.2.2.1
  have hts := S.2.2.2.2
  generalize va_A _ s.heap.size = A at hI hZ ⊢
  generalize hQ : MQ below _ _ s 0 0 A = Q
  have hl : lv_has ls 1 [(0, .ref b0)] := hl
  unfold fX2_leastNumber at h
  refine lv_aload_n hx hb dX2_leastNumber_0 rfl (lv_at hl 0 rfl) ?_
  refine bw_get S hK hI 0 0 rfl rfl (by decide) i_X2 f_X2_29 rfl dX2_leastNumber_1 ?_
  refine lv_iconst (v := 1) hx hb dX2_leastNumber_4 rfl ?_
  refine lv_icmp_ne (tgt := 12) hx hb dX2_leastNumber_5 (by decide) (fun c_5 => ?_) (fun c_5 => ?_)
  · rw [if_neg c_5] at h
    refine lv_iconst (v := 1) hx hb dX2_leastNumber_12 rfl ?_
    exact bw_iretP S hr hlocks h hI rfl dX2_leastNumber_13 hQ
  rw [if_pos c_5] at h
  refine lv_iconst (v := 0) hx hb dX2_leastNumber_8 rfl ?_
  refine lv_goto (tgt := 13) hx hb dX2_leastNumber_9 (by decide) ?_
  exact bw_iretP S hr hlocks h hI rfl dX2_leastNumber_13 hQ
set_option maxHeartbeats 4000000 in
set_option maxRecDepth 100000 in
theorem mX2_greatestNumber (l : Launch) (G : va_G) (cy : Nat → ClassId) (g : Nat) (b0 : Nat) (rp : Int32) (rn : Int32) (rt : Int32) (r : Int32) (h : fX2_greatestNumber rp = some r) : bw_M l yX2_greatestNumber cX2_greatestNumber 1 (some .int) 0 0 G cy g [.ref b0] (bw_rW b0 rp rn rt) (some (.int r)) (bw_rW b0 rp rn rt) := by
  refine bw_ofW (by decide +kernel) RX2 rfl (Nat.le_of_ble_eq_true rfl) ?_
  intro p e s m below meth c ls S hr hlocks hK hZ hI hl
  have hx := S.1
  have hb := S.2.1
  have hown := S.2.2.2.1
  have hts := S.2.2.2.2
  generalize va_A _ s.heap.size = A at hI hZ ⊢
  generalize hQ : MQ below _ _ s 0 0 A = Q
  have hl : lv_has ls 1 [(0, .ref b0)] := hl
  unfold fX2_greatestNumber at h
  refine lv_aload_n hx hb dX2_greatestNumber_0 rfl (lv_at hl 0 rfl) ?_
  refine bw_get S hK hI 0 0 rfl rfl (by decide) i_X2 f_X2_29 rfl dX2_greatestNumber_1 ?_
  refine lv_if_ne (tgt := 10) hx hb dX2_greatestNumber_4 (by decide) (fun c_4 => ?_) (fun c_4 => ?_)
  · rw [if_neg c_4] at h
    refine lv_aload_n hx hb dX2_greatestNumber_10 rfl (lv_at hl 0 rfl) ?_
    refine bw_get S hK hI 0 0 rfl rfl (by decide) i_X2 f_X2_29 rfl dX2_greatestNumber_11 ?_
    refine lv_iconst (v := 1) hx hb dX2_greatestNumber_14 rfl ?_
    refine lv_icmp_ne (tgt := 23) hx hb dX2_greatestNumber_15 (by decide) (fun c_15 => ?_) (fun c_15 => ?_)
    · rw [if_neg c_15] at h
      refine lv_bipush (v := 60) hx hb dX2_greatestNumber_23 (by decide) ?_
      exact bw_iretP S hr hlocks h hI rfl dX2_greatestNumber_25 hQ
    rw [if_pos c_15] at h
    refine lv_bipush (v := 99) hx hb dX2_greatestNumber_18 (by decide) ?_
    refine lv_goto (tgt := 25) hx hb dX2_greatestNumber_20 (by decide) ?_
    exact bw_iretP S hr hlocks h hI rfl dX2_greatestNumber_25 hQ
  rw [if_pos c_4] at h
  refine lv_bipush (v := 9) hx hb dX2_greatestNumber_7 (by decide) ?_
  exact bw_iretP S hr hlocks h hI rfl dX2_greatestNumber_9 hQ
set_option maxHeartbeats 4000000 in
set_option maxRecDepth 100000 in
theorem mX2_takesDigit (l : Launch) (G : va_G) (cy : Nat → ClassId) (g : Nat) (b0 : Nat) (rp : Int32) (rn : Int32) (rt : Int32) (p1 : Int32) (r : Int32) (rn' : Int32) (h : fX2_takesDigit rp rn p1 = some (r, rn')) : bw_M l yX2_takesDigit cX2_takesDigit 3 (some .boolean) 1 20 G cy g [.ref b0, .int p1] (bw_rW b0 rp rn rt) (some (.int r)) (bw_rW b0 rp rn' rt) := by
  refine bw_ofW (by decide +kernel) RX2 rfl (Nat.le_of_ble_eq_true rfl) ?_
  intro p e s m below meth c ls S hr hlocks hK hZ hI hl
  have hx := S.1
  have hb := S.2.1
  have hown := S.2.2.2.1
  have hts := S.2.2.2.2
  generalize va_A _ s.heap.size = A at hI hZ ⊢
  generalize hQ : MQ below _ _ s 0 0 A = Q
  have hl : lv_has ls 3 [(0, .ref b0), (1, .int p1)] := hl
  have j21 : ∀ (rn : Int32) (s0 : Int32) (H : Heap) (locs : List Loc) (ls : Array Slot), jX2_takesDigit_21 rp rn s0 = some (r, rn') → bw_I G A s.heap (bw_rW b0 rp rn rt) H locs → lv_has ls 3 [(0, .ref b0)] → W p l e (bw_rm 1 20) s m [.ref b0, .int p1].toArray below meth c H locs 0 0 Q (F0 m 21 ls [.int s0]) := by
    intro rn s0 H locs ls h hI hl
    unfold jX2_takesDigit_21 at h
    refine lv_istore_n (lv' := [(2, .int s0), (0, .ref b0)]) hx hb dX2_takesDigit_21 rfl hl (by decide) rfl (fun ls hl => ?_)
    refine lv_aload_n hx hb dX2_takesDigit_22 rfl (lv_at hl 1 rfl) ?_
    refine bw_get S hK hI 0 1 rfl rfl (by decide) i_X2 f_X2_22 rfl dX2_takesDigit_23 ?_
    refine lv_if_eq (tgt := 45) hx hb dX2_takesDigit_26 (by decide) (fun c_26 => ?_) (fun c_26 => ?_)
    · rw [if_pos c_26] at h
      refine lv_iconst (v := 0) hx hb dX2_takesDigit_45 rfl ?_
      exact bw_iret (d := rn) (rr := (r, rn')) S hr hlocks h (fun q : Int32 => (bw_rW b0 rp q rt)) hI rfl dX2_takesDigit_46 hQ
    rw [if_neg c_26] at h
    refine lv_iload_n hx hb dX2_takesDigit_29 rfl (lv_at hl 0 rfl) ?_
    refine lv_aload_n hx hb dX2_takesDigit_30 rfl (lv_at hl 1 rfl) ?_
    obtain ⟨r31, hc, h⟩ := bw_b1_e h
    refine bw_callV S hK hZ hI (mX2_leastNumber l G cy g b0 rp rn rt r31 hc) Y_X2_leastNumber V_X2_leastNumber l_X2_32 ⟨(Nat.le_of_ble_eq_true rfl), (Nat.le_of_ble_eq_true rfl)⟩ (q0 := 0) rfl rfl rfl (ws' := (bw_rW b0 rp rn rt)) (bw_pS _) (bw_pS' _) rfl rfl hl.1 (rest := [.int s0]) (st1 := [.int r31, .int s0]) rfl rfl (Nat.le_of_ble_eq_true rfl) dX2_takesDigit_31 ⟨(Nat.le_of_ble_eq_true rfl), (Nat.le_of_ble_eq_true rfl)⟩ (fun H locs hI => ?_)
    refine lv_icmp_lt (tgt := 45) hx hb dX2_takesDigit_34 (by decide) (fun c_34 => ?_) (fun c_34 => ?_)
    · rw [if_pos c_34] at h
      refine lv_iconst (v := 0) hx hb dX2_takesDigit_45 rfl ?_
      exact bw_iret (d := rn) (rr := (r, rn')) S hr hlocks h (fun q : Int32 => (bw_rW b0 rp q rt)) hI rfl dX2_takesDigit_46 hQ
    rw [if_neg c_34] at h
    refine lv_iload_n hx hb dX2_takesDigit_37 rfl (lv_at hl 0 rfl) ?_
    refine lv_aload_n hx hb dX2_takesDigit_38 rfl (lv_at hl 1 rfl) ?_
    obtain ⟨r39, hc, h⟩ := bw_b1_e h
    refine bw_callV S hK hZ hI (mX2_greatestNumber l G cy g b0 rp rn rt r39 hc) Y_X2_greatestNumber V_X2_greatestNumber l_X2_36 ⟨(Nat.le_of_ble_eq_true rfl), (Nat.le_of_ble_eq_true rfl)⟩ (q0 := 0) rfl rfl rfl (ws' := (bw_rW b0 rp rn rt)) (bw_pS _) (bw_pS' _) rfl rfl hl.1 (rest := [.int s0]) (st1 := [.int r39, .int s0]) rfl rfl (Nat.le_of_ble_eq_true rfl) dX2_takesDigit_39 ⟨(Nat.le_of_ble_eq_true rfl), (Nat.le_of_ble_eq_true rfl)⟩ (fun H locs hI => ?_)
    refine lv_icmp_le (tgt := 47) hx hb dX2_takesDigit_42 (by decide) (fun c_42 => ?_) (fun c_42 => ?_)
    · rw [if_pos c_42] at h
      refine lv_aload_n hx hb dX2_takesDigit_47 rfl (lv_at hl 1 rfl) ?_
      refine lv_iload_n hx hb dX2_takesDigit_48 rfl (lv_at hl 0 rfl) ?_
      refine bw_put S hK hI 0 1 (ws' := (bw_rW b0 rp s0 rt)) tyX2 tyX2_ok nmX2 rfl rfl (by decide) i_X2 f_X2_22 rfl rfl rfl rfl (Nat.le_of_ble_eq_true rfl) rfl dX2_takesDigit_49 (fun H locs hI => ?_)
      refine lv_iconst (v := 1) hx hb dX2_takesDigit_52 rfl ?_
      exact bw_iret (d := s0) (rr := (r, rn')) S hr hlocks h (fun q : Int32 => (bw_rW b0 rp q rt)) hI rfl dX2_takesDigit_53 hQ
    rw [if_neg c_42] at h
    refine lv_iconst (v := 0) hx hb dX2_takesDigit_45 rfl ?_
    exact bw_iret (d := rn) (rr := (r, rn')) S hr hlocks h (fun q : Int32 => (bw_rW b0 rp q rt)) hI rfl dX2_takesDigit_46 hQ
  unfold fX2_takesDigit at h
  refine lv_aload_n hx hb dX2_takesDigit_0 rfl (lv_at hl 0 rfl) ?_
  refine bw_get S hK hI 0 1 rfl rfl (by decide) i_X2 f_X2_22 rfl dX2_takesDigit_1 ?_
  refine lv_iconst (v := (-1)) hx hb dX2_takesDigit_4 rfl ?_
  refine lv_icmp_ne (tgt := 12) hx hb dX2_takesDigit_5 (by decide) (fun c_5 => ?_) (fun c_5 => ?_)
  · rw [if_neg c_5] at h
    refine lv_aload_n hx hb dX2_takesDigit_12 rfl (lv_at hl 0 rfl) ?_
    refine bw_get S hK hI 0 1 rfl rfl (by decide) i_X2 f_X2_22 rfl dX2_takesDigit_13 ?_
    refine lv_bipush (v := 10) hx hb dX2_takesDigit_16 (by decide) ?_
    refine lv_imul hx hb dX2_takesDigit_18 ?_
    refine lv_iload_n hx hb dX2_takesDigit_19 rfl (lv_at hl 1 rfl) ?_
    refine lv_iadd hx hb dX2_takesDigit_20 ?_
    exact j21 rn ((rn * 10) + p1) _ _ _ h hI (lv_sub hl [0] rfl)
  rw [if_pos c_5] at h
  refine lv_iload_n hx hb dX2_takesDigit_8 rfl (lv_at hl 1 rfl) ?_
  refine lv_goto (tgt := 21) hx hb dX2_takesDigit_9 (by decide) ?_
  exact j21 rn p1 _ _ _ h hI (lv_sub hl [0] rfl)
set_option maxHeartbeats 4000000 in
set_option maxRecDepth 100000 in
theorem mX2_takesSign (l : Launch) (G : va_G) (cy : Nat → ClassId) (g : Nat) (b0 : Nat) (rp : Int32) (rn : Int32) (rt : Int32) (p1 : Int32) (r : Int32) (rp' : Int32) (rn' : Int32) (rt' : Int32) (h : fX2_takesSign rp rn rt p1 = some (r, rp', rn', rt')) : bw_M l yX2_takesSign cX2_takesSign 2 (some .boolean) 1 21 G cy g [.ref b0, .int p1] (bw_rW b0 rp rn rt) (some (.int r)) (bw_rW b0 rp' rn' rt') := by
  refine bw_ofW (by decide +kernel) RX2 rfl (Nat.le_of_ble_eq_true rfl) ?_
  intro p e s m below meth c ls S hr hlocks hK hZ hI hl
  have hx := S.1
  have hb := S.2.1
  have hown := S.2.2.2.1
  have hts := S.2.2.2.2
  generalize va_A _ s.heap.size = A at hI hZ ⊢
  generalize hQ : MQ below _ _ s 0 0 A = Q
  have hl : lv_has ls 2 [(0, .ref b0), (1, .int p1)] := hl
  have j86 : ∀ (rp : Int32) (rn : Int32) (rt : Int32) (x1 : Int32) (H : Heap) (locs : List Loc) (ls : Array Slot), jX2_takesSign_86 rp rn rt x1 = some (r, rp', rn', rt') → bw_I G A s.heap (bw_rW b0 rp rn rt) H locs → lv_has ls 2 [(0, .ref b0), (1, .int x1)] → W p l e (bw_rm 1 21) s m [.ref b0, .int p1].toArray below meth c H locs 0 0 Q (F0 m 86 ls []) := by
    intro rp rn rt x1 H locs ls h hI hl
    unfold jX2_takesSign_86 at h
    refine lv_aload_n hx hb dX2_takesSign_86 rfl (lv_at hl 0 rfl) ?_
    refine bw_get S hK hI 0 0 rfl rfl (by decide) i_X2 f_X2_29 rfl dX2_takesSign_87 ?_
    refine lv_iconst (v := 2) hx hb dX2_takesSign_90 rfl ?_
    refine lv_icmp_ne (tgt := 107) hx hb dX2_takesSign_91 (by decide) (fun c_91 => ?_) (fun c_91 => ?_)
    · rw [if_neg c_91] at h
      refine lv_iconst (v := 0) hx hb dX2_takesSign_107 rfl ?_
      exact bw_iret (d := (rp, rn, rt)) (rr := (r, rp', rn', rt')) S hr hlocks h (fun q : (Int32 × Int32 × Int32) => (bw_rW b0 q.1 q.2.1 q.2.2)) hI rfl dX2_takesSign_108 hQ
    rw [if_pos c_91] at h
    refine lv_iload_n hx hb dX2_takesSign_94 rfl (lv_at hl 1 rfl) ?_
    refine lv_bipush (v := 59) hx hb dX2_takesSign_95 (by decide) ?_
    refine lv_icmp_ne (tgt := 107) hx hb dX2_takesSign_97 (by decide) (fun c_97 => ?_) (fun c_97 => ?_)
    · rw [if_neg c_97] at h
      refine lv_iconst (v := 0) hx hb dX2_takesSign_107 rfl ?_
      exact bw_iret (d := (rp, rn, rt)) (rr := (r, rp', rn', rt')) S hr hlocks h (fun q : (Int32 × Int32 × Int32) => (bw_rW b0 q.1 q.2.1 q.2.2)) hI rfl dX2_takesSign_108 hQ
    rw [if_pos c_97] at h
    refine lv_aload_n hx hb dX2_takesSign_100 rfl (lv_at hl 0 rfl) ?_
    refine lv_iconst (v := 0) hx hb dX2_takesSign_101 rfl ?_
    obtain ⟨rp_102, rn_102, hc, h⟩ := bw_b2_e h
    refine bw_callV S hK hZ hI (mX2_begin l G cy g b0 rp rn rt 0 rp_102 rn_102 hc) Y_X2_begin V_X2_begin l_X2_11 ⟨(Nat.le_of_ble_eq_true rfl), (Nat.le_of_ble_eq_true rfl)⟩ (q0 := 0) rfl rfl rfl (ws' := (bw_rW b0 rp_102 rn_102 rt)) (bw_pS _) (bw_pS' _) rfl rfl hl.1 (rest := []) (st1 := []) rfl rfl (Nat.le_of_ble_eq_true rfl) dX2_takesSign_102 ⟨(Nat.le_of_ble_eq_true rfl), (Nat.le_of_ble_eq_true rfl)⟩ (fun H locs hI => ?_)
    refine lv_iconst (v := 1) hx hb dX2_takesSign_105 rfl ?_
    exact bw_iret (d := (rp_102, rn_102, rt)) (rr := (r, rp', rn', rt')) S hr hlocks h (fun q : (Int32 × Int32 × Int32) => (bw_rW b0 q.1 q.2.1 q.2.2)) hI rfl dX2_takesSign_106 hQ
  have j46 : ∀ (rp : Int32) (rn : Int32) (rt : Int32) (x1 : Int32) (H : Heap) (locs : List Loc) (ls : Array Slot), jX2_takesSign_46 rp rn rt x1 = some (r, rp', rn', rt') → bw_I G A s.heap (bw_rW b0 rp rn rt) H locs → lv_has ls 2 [(0, .ref b0), (1, .int x1)] → W p l e (bw_rm 1 21) s m [.ref b0, .int p1].toArray below meth c H locs 0 0 Q (F0 m 46 ls []) := by
    intro rp rn rt x1 H locs ls h hI hl
    unfold jX2_takesSign_46 at h
    refine lv_aload_n hx hb dX2_takesSign_46 rfl (lv_at hl 0 rfl) ?_
    refine bw_get S hK hI 0 0 rfl rfl (by decide) i_X2 f_X2_29 rfl dX2_takesSign_47 ?_
    refine lv_iconst (v := 2) hx hb dX2_takesSign_50 rfl ?_
    refine lv_icmp_ne (tgt := 86) hx hb dX2_takesSign_51 (by decide) (fun c_51 => ?_) (fun c_51 => ?_)
    · rw [if_neg c_51] at h
      exact j86 rp rn rt x1 _ _ _ h hI (lv_sub hl [0,1] rfl)
    rw [if_pos c_51] at h
    refine lv_iload_n hx hb dX2_takesSign_54 rfl (lv_at hl 1 rfl) ?_
    refine lv_bipush (v := 43) hx hb dX2_takesSign_55 (by decide) ?_
    refine lv_icmp_ne (tgt := 86) hx hb dX2_takesSign_57 (by decide) (fun c_57 => ?_) (fun c_57 => ?_)
    · rw [if_neg c_57] at h
      exact j86 rp rn rt x1 _ _ _ h hI (lv_sub hl [0,1] rfl)
    rw [if_pos c_57] at h
    refine lv_aload_n hx hb dX2_takesSign_60 rfl (lv_at hl 0 rfl) ?_
    refine bw_get S hK hI 0 2 rfl rfl (by decide) i_X2 f_X2_39 rfl dX2_takesSign_61 ?_
    refine lv_bipush (v := 8) hx hb dX2_takesSign_64 (by decide) ?_
    refine lv_icmp_ge (tgt := 86) hx hb dX2_takesSign_66 (by decide) (fun c_66 => ?_) (fun c_66 => ?_)
    · rw [if_pos c_66] at h
      exact j86 rp rn rt x1 _ _ _ h hI (lv_sub hl [0,1] rfl)
    rw [if_neg c_66] at h
    refine lv_aload_n hx hb dX2_takesSign_69 rfl (lv_at hl 0 rfl) ?_
    refine lv_iconst (v := 2) hx hb dX2_takesSign_70 rfl ?_
    obtain ⟨rp_71, rn_71, hc, h⟩ := bw_b2_e h
    refine bw_callV S hK hZ hI (mX2_begin l G cy g b0 rp rn rt 2 rp_71 rn_71 hc) Y_X2_begin V_X2_begin l_X2_11 ⟨(Nat.le_of_ble_eq_true rfl), (Nat.le_of_ble_eq_true rfl)⟩ (q0 := 0) rfl rfl rfl (ws' := (bw_rW b0 rp_71 rn_71 rt)) (bw_pS _) (bw_pS' _) rfl rfl hl.1 (rest := []) (st1 := []) rfl rfl (Nat.le_of_ble_eq_true rfl) dX2_takesSign_71 ⟨(Nat.le_of_ble_eq_true rfl), (Nat.le_of_ble_eq_true rfl)⟩ (fun H locs hI => ?_)
    refine lv_aload_n hx hb dX2_takesSign_74 rfl (lv_at hl 0 rfl) ?_
    refine lv_dup hx hb dX2_takesSign_75 rfl ?_
    refine bw_get S hK hI 0 2 rfl rfl (by decide) i_X2 f_X2_39 rfl dX2_takesSign_76 ?_
    refine lv_iconst (v := 1) hx hb dX2_takesSign_79 rfl ?_
    refine lv_iadd hx hb dX2_takesSign_80 ?_
    refine lv_topi (fun rt_81 e_81 => ?_)
    have h := bw_let_e h e_81
    clear e_81
    refine bw_put S hK hI 0 2 (ws' := (bw_rW b0 rp_71 rn_71 rt_81)) tyX2 tyX2_ok nmX2 rfl rfl (by decide) i_X2 f_X2_39 rfl rfl rfl rfl (Nat.le_of_ble_eq_true rfl) rfl dX2_takesSign_81 (fun H locs hI => ?_)
    refine lv_iconst (v := 1) hx hb dX2_takesSign_84 rfl ?_
    exact bw_iret (d := (rp_71, rn_71, rt_81)) (rr := (r, rp', rn', rt')) S hr hlocks h (fun q : (Int32 × Int32 × Int32) => (bw_rW b0 q.1 q.2.1 q.2.2)) hI rfl dX2_takesSign_85 hQ
  have j20 : ∀ (rp : Int32) (rn : Int32) (rt : Int32) (x1 : Int32) (H : Heap) (locs : List Loc) (ls : Array Slot), jX2_takesSign_20 rp rn rt x1 = some (r, rp', rn', rt') → bw_I G A s.heap (bw_rW b0 rp rn rt) H locs → lv_has ls 2 [(0, .ref b0), (1, .int x1)] → W p l e (bw_rm 1 21) s m [.ref b0, .int p1].toArray below meth c H locs 0 0 Q (F0 m 20 ls []) := by
    intro rp rn rt x1 H locs ls h hI hl
    unfold jX2_takesSign_20 at h
    refine lv_aload_n hx hb dX2_takesSign_20 rfl (lv_at hl 0 rfl) ?_
    refine bw_get S hK hI 0 0 rfl rfl (by decide) i_X2 f_X2_29 rfl dX2_takesSign_21 ?_
    refine lv_iconst (v := 1) hx hb dX2_takesSign_24 rfl ?_
    refine lv_icmp_ne (tgt := 46) hx hb dX2_takesSign_25 (by decide) (fun c_25 => ?_) (fun c_25 => ?_)
    · rw [if_neg c_25] at h
      exact j46 rp rn rt x1 _ _ _ h hI (lv_sub hl [0,1] rfl)
    rw [if_pos c_25] at h
    refine lv_iload_n hx hb dX2_takesSign_28 rfl (lv_at hl 1 rfl) ?_
    refine lv_bipush (v := 58) hx hb dX2_takesSign_29 (by decide) ?_
    refine lv_icmp_ne (tgt := 46) hx hb dX2_takesSign_31 (by decide) (fun c_31 => ?_) (fun c_31 => ?_)
    · rw [if_neg c_31] at h
      exact j46 rp rn rt x1 _ _ _ h hI (lv_sub hl [0,1] rfl)
    rw [if_pos c_31] at h
    refine lv_aload_n hx hb dX2_takesSign_34 rfl (lv_at hl 0 rfl) ?_
    refine lv_iconst (v := 2) hx hb dX2_takesSign_35 rfl ?_
    obtain ⟨rp_36, rn_36, hc, h⟩ := bw_b2_e h
    refine bw_callV S hK hZ hI (mX2_begin l G cy g b0 rp rn rt 2 rp_36 rn_36 hc) Y_X2_begin V_X2_begin l_X2_11 ⟨(Nat.le_of_ble_eq_true rfl), (Nat.le_of_ble_eq_true rfl)⟩ (q0 := 0) rfl rfl rfl (ws' := (bw_rW b0 rp_36 rn_36 rt)) (bw_pS _) (bw_pS' _) rfl rfl hl.1 (rest := []) (st1 := []) rfl rfl (Nat.le_of_ble_eq_true rfl) dX2_takesSign_36 ⟨(Nat.le_of_ble_eq_true rfl), (Nat.le_of_ble_eq_true rfl)⟩ (fun H locs hI => ?_)
    refine lv_aload_n hx hb dX2_takesSign_39 rfl (lv_at hl 0 rfl) ?_
    refine lv_iconst (v := 1) hx hb dX2_takesSign_40 rfl ?_
    refine bw_put S hK hI 0 2 (ws' := (bw_rW b0 rp_36 rn_36 1)) tyX2 tyX2_ok nmX2 rfl rfl (by decide) i_X2 f_X2_39 rfl rfl rfl rfl (Nat.le_of_ble_eq_true rfl) rfl dX2_takesSign_41 (fun H locs hI => ?_)
    refine lv_iconst (v := 1) hx hb dX2_takesSign_44 rfl ?_
    exact bw_iret (d := (rp_36, rn_36, 1)) (rr := (r, rp', rn', rt')) S hr hlocks h (fun q : (Int32 × Int32 × Int32) => (bw_rW b0 q.1 q.2.1 q.2.2)) hI rfl dX2_takesSign_45 hQ
  unfold fX2_takesSign at h
  refine lv_aload_n hx hb dX2_takesSign_0 rfl (lv_at hl 0 rfl) ?_
  refine bw_get S hK hI 0 0 rfl rfl (by decide) i_X2 f_X2_29 rfl dX2_takesSign_1 ?_
  refine lv_if_ne (tgt := 20) hx hb dX2_takesSign_4 (by decide) (fun c_4 => ?_) (fun c_4 => ?_)
  · rw [if_neg c_4] at h
    exact j20 rp rn rt p1 _ _ _ h hI (lv_sub hl [0,1] rfl)
  rw [if_pos c_4] at h
  refine lv_iload_n hx hb dX2_takesSign_7 rfl (lv_at hl 1 rfl) ?_
  refine lv_bipush (v := 58) hx hb dX2_takesSign_8 (by decide) ?_
  refine lv_icmp_ne (tgt := 20) hx hb dX2_takesSign_10 (by decide) (fun c_10 => ?_) (fun c_10 => ?_)
  · rw [if_neg c_10] at h
    exact j20 rp rn rt p1 _ _ _ h hI (lv_sub hl [0,1] rfl)
  rw [if_pos c_10] at h
  refine lv_aload_n hx hb dX2_takesSign_13 rfl (lv_at hl 0 rfl) ?_
  refine lv_iconst (v := 1) hx hb dX2_takesSign_14 rfl ?_
  obtain ⟨rp_15, rn_15, hc, h⟩ := bw_b2_e h
  refine bw_callV S hK hZ hI (mX2_begin l G cy g b0 rp rn rt 1 rp_15 rn_15 hc) Y_X2_begin V_X2_begin l_X2_11 ⟨(Nat.le_of_ble_eq_true rfl), (Nat.le_of_ble_eq_true rfl)⟩ (q0 := 0) rfl rfl rfl (ws' := (bw_rW b0 rp_15 rn_15 rt)) (bw_pS _) (bw_pS' _) rfl rfl hl.1 (rest := []) (st1 := []) rfl rfl (Nat.le_of_ble_eq_true rfl) dX2_takesSign_15 ⟨(Nat.le_of_ble_eq_true rfl), (Nat.le_of_ble_eq_true rfl)⟩ (fun H locs hI => ?_)
  refine lv_iconst (v := 1) hx hb dX2_takesSign_18 rfl ?_
  exact bw_iret (d := (rp_15, rn_15, rt)) (rr := (r, rp', rn', rt')) S hr hlocks h (fun q : (Int32 × Int32 × Int32) => (bw_rW b0 q.1 q.2.1 q.2.2)) hI rfl dX2_takesSign_19 hQ
set_option maxHeartbeats 4000000 in
set_option maxRecDepth 100000 in
theorem mX2_takes (l : Launch) (G : va_G) (cy : Nat → ClassId) (g : Nat) (b0 : Nat) (rp : Int32) (rn : Int32) (rt : Int32) (p1 : Int32) (r : Int32) (rp' : Int32) (rn' : Int32) (rt' : Int32) (h : fX2_takes rp rn rt p1 = some (r, rp', rn', rt')) : bw_M l yX2_takes cX2_takes 2 (some .boolean) 2 42 G cy g [.ref b0, .int p1] (bw_rW b0 rp rn rt) (some (.int r)) (bw_rW b0 rp' rn' rt') := by
  refine bw_ofW (by decide +kernel) RX2 rfl (Nat.le_of_ble_eq_true rfl) ?_
  intro p e s m below meth c ls S hr hlocks hK hZ hI hl
  have hx := S.1
  have hb := S.2.1
  have hown := S.2.2.2.1
  have hts := S.2.2.2.2
  generalize va_A _ s.heap.size = A at hI hZ ⊢
  generalize hQ : MQ below _ _ s 0 0 A = Q
  have hl : lv_has ls 2 [(0, .ref b0), (1, .int p1)] := hl
  have j38 : ∀ (rp : Int32) (rn : Int32) (rt : Int32) (H : Heap) (locs : List Loc) (ls : Array Slot), jX2_takes_38 rp rn rt = some (r, rp', rn', rt') → bw_I G A s.heap (bw_rW b0 rp rn rt) H locs → lv_has ls 2 [] → W p l e (bw_rm 2 42) s m [.ref b0, .int p1].toArray below meth c H locs 0 0 Q (F0 m 38 ls []) := by
    intro rp rn rt H locs ls h hI hl
    unfold jX2_takes_38 at h
    refine lv_iconst (v := 0) hx hb dX2_takes_38 rfl ?_
    exact bw_iret (d := (rp, rn, rt)) (rr := (r, rp', rn', rt')) S hr hlocks h (fun q : (Int32 × Int32 × Int32) => (bw_rW b0 q.1 q.2.1 q.2.2)) hI rfl dX2_takes_39 hQ
  unfold fX2_takes at h
  refine lv_iload_n hx hb dX2_takes_0 rfl (lv_at hl 1 rfl) ?_
  obtain ⟨r1, hc, h⟩ := bw_b1_e h
  refine bw_callP S hK hZ hI (mX2_isDigit l G cy g p1 r1 hc) Y_X2_isDigit V_X2_isDigit l_X2_15 ⟨(Nat.le_of_ble_eq_true rfl), (Nat.le_of_ble_eq_true rfl)⟩ (rest := []) (st1 := [.int r1]) rfl hl.1 rfl rfl (Nat.le_of_ble_eq_true rfl) dX2_takes_1 ⟨(Nat.le_of_ble_eq_true rfl), (Nat.le_of_ble_eq_true rfl)⟩ (fun H locs hI => ?_)
  refine lv_if_eq (tgt := 18) hx hb dX2_takes_4 (by decide) (fun c_4 => ?_) (fun c_4 => ?_)
  · rw [if_pos c_4] at h
    refine lv_aload_n hx hb dX2_takes_18 rfl (lv_at hl 0 rfl) ?_
    refine bw_get S hK hI 0 1 rfl rfl (by decide) i_X2 f_X2_22 rfl dX2_takes_19 ?_
    refine lv_iconst (v := (-1)) hx hb dX2_takes_22 rfl ?_
    refine lv_icmp_eq (tgt := 38) hx hb dX2_takes_23 (by decide) (fun c_23 => ?_) (fun c_23 => ?_)
    · rw [if_pos c_23] at h
      exact j38 rp rn rt _ _ _ h hI (lv_sub hl [] rfl)
    rw [if_neg c_23] at h
    refine lv_aload_n hx hb dX2_takes_26 rfl (lv_at hl 0 rfl) ?_
    refine lv_iload_n hx hb dX2_takes_27 rfl (lv_at hl 1 rfl) ?_
    obtain ⟨r28, rp_28, rn_28, rt_28, hc, h⟩ := bw_b4_e h
    refine bw_callV S hK hZ hI (mX2_takesSign l G cy g b0 rp rn rt p1 r28 rp_28 rn_28 rt_28 hc) Y_X2_takesSign V_X2_takesSign l_X2_26 ⟨(Nat.le_of_ble_eq_true rfl), (Nat.le_of_ble_eq_true rfl)⟩ (q0 := 0) rfl rfl rfl (ws' := (bw_rW b0 rp_28 rn_28 rt_28)) (bw_pS _) (bw_pS' _) rfl rfl hl.1 (rest := []) (st1 := [.int r28]) rfl rfl (Nat.le_of_ble_eq_true rfl) dX2_takes_28 ⟨(Nat.le_of_ble_eq_true rfl), (Nat.le_of_ble_eq_true rfl)⟩ (fun H locs hI => ?_)
    refine lv_if_eq (tgt := 38) hx hb dX2_takes_31 (by decide) (fun c_31 => ?_) (fun c_31 => ?_)
    · rw [if_pos c_31] at h
      exact j38 rp_28 rn_28 rt_28 _ _ _ h hI (lv_sub hl [] rfl)
    rw [if_neg c_31] at h
    refine lv_iconst (v := 1) hx hb dX2_takes_34 rfl ?_
    refine lv_goto (tgt := 39) hx hb dX2_takes_35 (by decide) ?_
    exact bw_iret (d := (rp_28, rn_28, rt_28)) (rr := (r, rp', rn', rt')) S hr hlocks h (fun q : (Int32 × Int32 × Int32) => (bw_rW b0 q.1 q.2.1 q.2.2)) hI rfl dX2_takes_39 hQ
  rw [if_neg c_4] at h
  refine lv_aload_n hx hb dX2_takes_7 rfl (lv_at hl 0 rfl) ?_
  refine lv_iload_n hx hb dX2_takes_8 rfl (lv_at hl 1 rfl) ?_
  refine lv_bipush (v := 48) hx hb dX2_takes_9 (by decide) ?_
  refine lv_isub hx hb dX2_takes_11 ?_
  obtain ⟨r12, rn_12, hc, h⟩ := bw_b2_e h
  refine bw_callV S hK hZ hI (mX2_takesDigit l G cy g b0 rp rn rt (p1 - 48) r12 rn_12 hc) Y_X2_takesDigit V_X2_takesDigit l_X2_19 ⟨(Nat.le_of_ble_eq_true rfl), (Nat.le_of_ble_eq_true rfl)⟩ (q0 := 0) rfl rfl rfl (ws' := (bw_rW b0 rp rn_12 rt)) (bw_pS _) (bw_pS' _) rfl rfl hl.1 (rest := []) (st1 := [.int r12]) rfl rfl (Nat.le_of_ble_eq_true rfl) dX2_takes_12 ⟨(Nat.le_of_ble_eq_true rfl), (Nat.le_of_ble_eq_true rfl)⟩ (fun H locs hI => ?_)
  refine lv_goto (tgt := 39) hx hb dX2_takes_15 (by decide) ?_
  obtain ⟨h9, h⟩ := bw_bool_e h
  exact bw_iret (d := (rp, rn_12, rt)) (rr := (r, rp', rn', rt')) S hr hlocks h (fun q : (Int32 × Int32 × Int32) => (bw_rW b0 q.1 q.2.1 q.2.2)) hI h9 dX2_takes_39 hQ
set_option maxHeartbeats 4000000 in
set_option maxRecDepth 100000 in
theorem mX2_isAtEndOfPlan (l : Launch) (G : va_G) (cy : Nat → ClassId) (g : Nat) (b0 : Nat) (rp : Int32) (rn : Int32) (rt : Int32) (r : Int32) (h : fX2_isAtEndOfPlan rp rn = some r) : bw_M l yX2_isAtEndOfPlan cX2_isAtEndOfPlan 1 (some .boolean) 0 0 G cy g [.ref b0] (bw_rW b0 rp rn rt) (some (.int r)) (bw_rW b0 rp rn rt) := by
  refine bw_ofW (by decide +kernel) RX2 rfl (Nat.le_of_ble_eq_true rfl) ?_
  intro p e s m below meth c ls S hr hlocks hK hZ hI hl
  have hx := S.1
  have hb := S.2.1
  have hown := S.2.2.2.1
  have hts := S.2.2.2.2
  generalize va_A _ s.heap.size = A at hI hZ ⊢
  generalize hQ : MQ below _ _ s 0 0 A = Q
  have hl : lv_has ls 1 [(0, .ref b0)] := hl
  have j20 : ∀  (H : Heap) (locs : List Loc) (ls : Array Slot), jX2_isAtEndOfPlan_20 rp rn = some r → bw_I G A s.heap (bw_rW b0 rp rn rt) H locs → lv_has ls 1 [] → W p l e (bw_rm 0 0) s m [.ref b0].toArray below meth c H locs 0 0 Q (F0 m 20 ls []) := by
    intro  H locs ls h hI hl
    unfold jX2_isAtEndOfPlan_20 at h
    refine lv_iconst (v := 0) hx hb dX2_isAtEndOfPlan_20 rfl ?_
    exact bw_iretP S hr hlocks h hI rfl dX2_isAtEndOfPlan_21 hQ
  unfold fX2_isAtEndOfPlan at h
  refine lv_aload_n hx hb dX2_isAtEndOfPlan_0 rfl (lv_at hl 0 rfl) ?_
  refine bw_get S hK hI 0 0 rfl rfl (by decide) i_X2 f_X2_29 rfl dX2_isAtEndOfPlan_1 ?_
  refine lv_iconst (v := 2) hx hb dX2_isAtEndOfPlan_4 rfl ?_
  refine lv_icmp_ne (tgt := 20) hx hb dX2_isAtEndOfPlan_5 (by decide) (fun c_5 => ?_) (fun c_5 => ?_)
  · rw [if_neg c_5] at h
    exact j20  _ _ _ h hI (lv_sub hl [] rfl)
  rw [if_pos c_5] at h
  refine lv_aload_n hx hb dX2_isAtEndOfPlan_8 rfl (lv_at hl 0 rfl) ?_
  refine bw_get S hK hI 0 1 rfl rfl (by decide) i_X2 f_X2_22 rfl dX2_isAtEndOfPlan_9 ?_
  refine lv_iconst (v := (-1)) hx hb dX2_isAtEndOfPlan_12 rfl ?_
  refine lv_icmp_eq (tgt := 20) hx hb dX2_isAtEndOfPlan_13 (by decide) (fun c_13 => ?_) (fun c_13 => ?_)
  · rw [if_pos c_13] at h
    exact j20  _ _ _ h hI (lv_sub hl [] rfl)
  rw [if_neg c_13] at h
  refine lv_iconst (v := 1) hx hb dX2_isAtEndOfPlan_16 rfl ?_
  refine lv_goto (tgt := 21) hx hb dX2_isAtEndOfPlan_17 (by decide) ?_
  exact bw_iretP S hr hlocks h hI rfl dX2_isAtEndOfPlan_21 hQ
