set_option maxHeartbeats 4000000 in
set_option maxRecDepth 100000 in
theorem mX6_thrown (l : Launch) (G : va_G) (cy : Nat → ClassId) (g : Nat) (a : Nat → Nat) (z : bw_A1) (rows : bw_A1) (asd : bw_A1) (sm : Int32) (buf : bw_A1) (bm : Int32) (th : Int32) (od : bw_A1) (om : Int32) (ow : Int32) (ca : Int32) (bo : Int32) (la : Int32) (pl : Int32) (to : Int32) (rd : bw_A1) (hh : Int64) (r : Int32) (h : fX6_thrown th = some r) : bw_M l yX6_thrown cX6_thrown 1 (some .int) 0 0 G cy g [.ref (a 0)] (bw_mW cy a z rows asd sm buf bm th od om ow ca bo la pl to rd hh) (some (.int r)) (bw_mW cy a z rows asd sm buf bm th od om ow ca bo la pl to rd hh) := by
  refine bw_ofW (by decide +kernel) RX6 rfl (Nat.le_of_ble_eq_true rfl) ?_
  intro p e s m below meth c ls S hr hlocks hK hZ hI hl
  have hx := S.1
  have hb := S.2.1
  have hown := S.2.2.2.1
  have hts := S.2.2.2.2
  generalize va_A _ s.heap.size = A at hI hZ ⊢
  generalize hQ : MQ below _ _ s 0 0 A = Q
  have hl : lv_has ls 1 [(0, .ref (a 0))] := hl
  unfold fX6_thrown at h
  refine lv_aload_n hx hb dX6_thrown_0 rfl (lv_at hl 0 rfl) ?_
  refine bw_get S hK hI 0 6 rfl rfl (by decide) i_X6 f_X6_28 rfl dX6_thrown_1 ?_
  exact bw_iretP S hr hlocks h hI rfl dX6_thrown_4 hQ
set_option maxHeartbeats 4000000 in
set_option maxRecDepth 100000 in
theorem mX6_fails (l : Launch) (G : va_G) (cy : Nat → ClassId) (g : Nat) (a : Nat → Nat) (z : bw_A1) (rows : bw_A1) (asd : bw_A1) (sm : Int32) (buf : bw_A1) (bm : Int32) (th : Int32) (od : bw_A1) (om : Int32) (ow : Int32) (ca : Int32) (bo : Int32) (la : Int32) (pl : Int32) (to : Int32) (rd : bw_A1) (hh : Int64) (p1 : Int32) (r : Int32) (th' : Int32) (h : fX6_fails th p1 = some (r, th')) : bw_M l yX6_fails cX6_fails 2 (some .int) 0 0 G cy g [.ref (a 0), .int p1] (bw_mW cy a z rows asd sm buf bm th od om ow ca bo la pl to rd hh) (some (.int r)) (bw_mW cy a z rows asd sm buf bm th' od om ow ca bo la pl to rd hh) := by
  refine bw_ofW (by decide +kernel) RX6 rfl (Nat.le_of_ble_eq_true rfl) ?_
  intro p e s m below meth c ls S hr hlocks hK hZ hI hl
  have hx := S.1
  have hb := S.2.1
  have hown := S.2.2.2.1
  have hts := S.2.2.2.2
  generalize va_A _ s.heap.size = A at hI hZ ⊢
  generalize hQ : MQ below _ _ s 0 0 A = Q
  have hl : lv_has ls 2 [(0, .ref (a 0)), (1, .int p1)] := hl
  unfold fX6_fails at h
  refine lv_aload_n hx hb dX6_fails_0 rfl (lv_at hl 0 rfl) ?_
  refine lv_iload_n hx hb dX6_fails_1 rfl (lv_at hl 1 rfl) ?_
  refine bw_put S hK hI 0 6 (ws' := (bw_mW cy a z rows asd sm buf bm p1 od om ow ca bo la pl to rd hh)) tyX6 tyX6_ok nmX6 rfl rfl (by decide) i_X6 f_X6_28 rfl rfl rfl rfl (Nat.le_of_ble_eq_true rfl) rfl dX6_fails_2 (fun H locs hI => ?_)
  refine lv_iconst (v := 0) hx hb dX6_fails_5 rfl ?_
  exact bw_iret (d := p1) (rr := (r, th')) S hr hlocks h (fun q : Int32 => (bw_mW cy a z rows asd sm buf bm q od om ow ca bo la pl to rd hh)) hI rfl dX6_fails_6 hQ
set_option maxHeartbeats 4000000 in
set_option maxRecDepth 100000 in
theorem mX6_in (l : Launch) (G : va_G) (cy : Nat → ClassId) (g : Nat) (p0 : Int32) (p1 : Int32) (p2 : Int32) (r : Int32) (h : fX6_in p0 p1 p2 = some r) : bw_M l yX6_in cX6_in 3 (some .boolean) 0 0 G cy g [.int p0, .int p1, .int p2] [] (some (.int r)) [] := by
  refine bw_ofW (by decide +kernel) RX6 rfl (Nat.le_of_ble_eq_true rfl) ?_
  intro p e s m below meth c ls S hr hlocks hK hZ hI hl
  have hx := S.1
  have hb := S.2.1
  have hown := S.2.2.2.1
  have hts := S.2.2.2.2
  generalize va_A _ s.heap.size = A at hI hZ ⊢
  generalize hQ : MQ below _ _ s 0 0 A = Q
  have hl : lv_has ls 3 [(0, .int p0), (1, .int p1), (2, .int p2)] := hl
  have j14 : ∀  (H : Heap) (locs : List Loc) (ls : Array Slot), jX6_in_14  = some r → bw_I G A s.heap [] H locs → lv_has ls 3 [] → W p l e (bw_rm 0 0) s m [.int p0, .int p1, .int p2].toArray below meth c H locs 0 0 Q (F0 m 14 ls []) := by
    intro  H locs ls h hI hl
    unfold jX6_in_14 at h
    refine lv_iconst (v := 0) hx hb dX6_in_14 rfl ?_
    exact bw_iretP S hr hlocks h hI rfl dX6_in_15 hQ
  unfold fX6_in at h
  refine lv_iload_n hx hb dX6_in_0 rfl (lv_at hl 0 rfl) ?_
  refine lv_iload_n hx hb dX6_in_1 rfl (lv_at hl 1 rfl) ?_
  refine lv_icmp_lt (tgt := 14) hx hb dX6_in_2 (by decide) (fun c_2 => ?_) (fun c_2 => ?_)
  · rw [if_pos c_2] at h
    exact j14  _ _ _ h hI (lv_sub hl [] rfl)
  rw [if_neg c_2] at h
  refine lv_iload_n hx hb dX6_in_5 rfl (lv_at hl 0 rfl) ?_
  refine lv_iload_n hx hb dX6_in_6 rfl (lv_at hl 2 rfl) ?_
  refine lv_icmp_gt (tgt := 14) hx hb dX6_in_7 (by decide) (fun c_7 => ?_) (fun c_7 => ?_)
  · rw [if_pos c_7] at h
    exact j14  _ _ _ h hI (lv_sub hl [] rfl)
  rw [if_neg c_7] at h
  refine lv_iconst (v := 1) hx hb dX6_in_10 rfl ?_
  refine lv_goto (tgt := 15) hx hb dX6_in_11 (by decide) ?_
  exact bw_iretP S hr hlocks h hI rfl dX6_in_15 hQ
set_option maxHeartbeats 4000000 in
set_option maxRecDepth 100000 in
theorem mX6_least (l : Launch) (G : va_G) (cy : Nat → ClassId) (g : Nat) (p0 : Int32) (p1 : Int32) (r : Int32) (h : fX6_least p0 p1 = some r) : bw_M l yX6_least cX6_least 2 (some .int) 0 0 G cy g [.int p0, .int p1] [] (some (.int r)) [] := by
  refine bw_ofW (by decide +kernel) RX6 rfl (Nat.le_of_ble_eq_true rfl) ?_
  intro p e s m below meth c ls S hr hlocks hK hZ hI hl
  have hx := S.1
  have hb := S.2.1
  have hown := S.2.2.2.1
  have hts := S.2.2.2.2
  generalize va_A _ s.heap.size = A at hI hZ ⊢
  generalize hQ : MQ below _ _ s 0 0 A = Q
  have hl : lv_has ls 2 [(0, .int p0), (1, .int p1)] := hl
  unfold fX6_least at h
  refine lv_iload_n hx hb dX6_least_0 rfl (lv_at hl 0 rfl) ?_
  refine lv_iload_n hx hb dX6_least_1 rfl (lv_at hl 1 rfl) ?_
  refine lv_icmp_ge (tgt := 9) hx hb dX6_least_2 (by decide) (fun c_2 => ?_) (fun c_2 => ?_)
  · rw [if_pos c_2] at h
    refine lv_iload_n hx hb dX6_least_9 rfl (lv_at hl 1 rfl) ?_
    exact bw_iretP S hr hlocks h hI rfl dX6_least_10 hQ
  rw [if_neg c_2] at h
  refine lv_iload_n hx hb dX6_least_5 rfl (lv_at hl 0 rfl) ?_
  refine lv_goto (tgt := 10) hx hb dX6_least_6 (by decide) ?_
  exact bw_iretP S hr hlocks h hI rfl dX6_least_10 hQ
set_option maxHeartbeats 4000000 in
set_option maxRecDepth 100000 in
theorem mX6_save (l : Launch) (G : va_G) (cy : Nat → ClassId) (g : Nat) (a : Nat → Nat) (z : bw_A1) (rows : bw_A1) (asd : bw_A1) (sm : Int32) (buf : bw_A1) (bm : Int32) (th : Int32) (od : bw_A1) (om : Int32) (ow : Int32) (ca : Int32) (bo : Int32) (la : Int32) (pl : Int32) (to : Int32) (rd : bw_A1) (hh : Int64) (rows' : bw_A1) (sm' : Int32) (h : fX6_save z rows sm = some (rows', sm')) : bw_M l yX6_save cX6_save 2 none 0 0 G cy g [.ref (a 0)] (bw_mW cy a z rows asd sm buf bm th od om ow ca bo la pl to rd hh) none (bw_mW cy a z rows' asd sm' buf bm th od om ow ca bo la pl to rd hh) := by
  refine bw_ofW (by decide +kernel) RX6 rfl (Nat.le_of_ble_eq_true rfl) ?_
  intro p e s m below meth c ls S hr hlocks hK hZ hI hl
  have hx := S.1
  have hb := S.2.1
  have hown := S.2.2.2.1
  have hts := S.2.2.2.2
  generalize va_A _ s.heap.size = A at hI hZ ⊢
  generalize hQ : MQ below _ _ s 0 0 A = Q
  have hl : lv_has ls 2 [(0, .ref (a 0))] := hl
  have l52 : ∀ (sm : Int32) (n : Nat) (H : Heap) (locs : List Loc) (ls : Array Slot) (rows : bw_A1) (x1 : Int32), lX6_save_52 z sm n rows x1 = some (rows', sm') → bw_I G A s.heap (bw_mW cy a z rows asd sm buf bm th od om ow ca bo la pl to rd hh) H locs → lv_has ls 2 [(0, .ref (a 0)), (1, .int x1)] → W p l e (bw_rm 0 0) s m [.ref (a 0)].toArray below meth c H locs 0 0 Q (F0 m 52 ls []) := by
    intro sm n
    induction n with
    | zero => intro H locs ls rows x1 h; exact bw_none h
    | succ n ih =>
      intro H locs ls rows x1 h hI hl
      have h : bX6_save_52  (lX6_save_52 z sm n) z sm rows x1 = some (rows', sm') := h
      unfold bX6_save_52 at h
      refine lv_iload_n hx hb dX6_save_52 rfl (lv_at hl 1 rfl) ?_
      refine lv_sipush (v := 444) hx hb dX6_save_53 (by decide) ?_
      refine lv_icmp_ge (tgt := 86) hx hb dX6_save_56 (by decide) (fun c_56 => ?_) (fun c_56 => ?_)
      · rw [if_pos c_56] at h
        refine lv_aload_n hx hb dX6_save_86 rfl (lv_at hl 0 rfl) ?_
        refine lv_dup hx hb dX6_save_87 rfl ?_
        refine bw_get S hK hI 0 3 rfl rfl (by decide) i_X6 f_X6_32 rfl dX6_save_88 ?_
        refine lv_iconst (v := 1) hx hb dX6_save_91 rfl ?_
        refine lv_iadd hx hb dX6_save_92 ?_
        refine lv_topi (fun sm_93 e_93 => ?_)
        have h := bw_let_e h e_93
        clear e_93
        refine bw_put S hK hI 0 3 (ws' := (bw_mW cy a z rows asd sm_93 buf bm th od om ow ca bo la pl to rd hh)) tyX6 tyX6_ok nmX6 rfl rfl (by decide) i_X6 f_X6_32 rfl rfl rfl rfl (Nat.le_of_ble_eq_true rfl) rfl dX6_save_93 (fun H locs hI => ?_)
        exact bw_vret (d := (rows, sm_93)) (rr := (rows', sm')) S hr hlocks h (fun q : (bw_A1 × Int32) => (bw_mW cy a z q.1 asd q.2 buf bm th od om ow ca bo la pl to rd hh)) hI dX6_save_96 hQ
      rw [if_neg c_56] at h
      refine lv_aload_n hx hb dX6_save_59 rfl (lv_at hl 0 rfl) ?_
      refine bw_get S hK hI 0 1 rfl rfl (by decide) i_X6 f_X6_13 rfl dX6_save_60 ?_
      refine lv_sipush (v := 444) hx hb dX6_save_63 (by decide) ?_
      refine lv_aload_n hx hb dX6_save_66 rfl (lv_at hl 0 rfl) ?_
      refine bw_get S hK hI 0 3 rfl rfl (by decide) i_X6 f_X6_32 rfl dX6_save_67 ?_
      refine lv_imul hx hb dX6_save_70 ?_
      refine lv_iload_n hx hb dX6_save_71 rfl (lv_at hl 1 rfl) ?_
      refine lv_iadd hx hb dX6_save_72 ?_
      refine lv_aload_n hx hb dX6_save_73 rfl (lv_at hl 0 rfl) ?_
      refine bw_get S hK hI 0 0 rfl rfl (by decide) i_X6 f_X6_7 rfl dX6_save_74 ?_
      refine lv_iload_n hx hb dX6_save_77 rfl (lv_at hl 1 rfl) ?_
      obtain ⟨v78, hv, h⟩ := bw_b1_e h
      refine bw_iald hx hb hK hI 1 hv rfl dX6_save_78 ?_
      obtain ⟨rows_79, hv, h⟩ := bw_b1_e h
      refine bw_iast hx hb hK hI 2 (ws' := (bw_mW cy a z rows_79 asd sm buf bm th od om ow ca bo la pl to rd hh)) hv rfl rfl dX6_save_79 (fun H locs hI => ?_)
      obtain ⟨x1_80, e_80⟩ : ∃ y : Int32, y = x1 + 1 := ⟨_, rfl⟩
      have h := bw_let_e h e_80
      refine lv_iinc (v := x1_80) (lv' := [(1, .int x1_80), (0, .ref (a 0))]) hx hb dX6_save_80 hl (k := 1) rfl (by rw [e_80]; rfl) (by decide) rfl (fun ls hl => ?_)
      clear e_80
      refine lv_goto (tgt := 52) hx hb dX6_save_83 (by decide) ?_
      exact ih _ _ _ rows_79 x1_80 h hI (lv_sub hl [1,0] rfl)
  have j50 : ∀ (rows : bw_A1) (sm : Int32) (H : Heap) (locs : List Loc) (ls : Array Slot), jX6_save_50 z rows sm = some (rows', sm') → bw_I G A s.heap (bw_mW cy a z rows asd sm buf bm th od om ow ca bo la pl to rd hh) H locs → lv_has ls 2 [(0, .ref (a 0))] → W p l e (bw_rm 0 0) s m [.ref (a 0)].toArray below meth c H locs 0 0 Q (F0 m 50 ls []) := by
    intro rows sm H locs ls h hI hl
    unfold jX6_save_50 at h
    refine lv_iconst (v := 0) hx hb dX6_save_50 rfl ?_
    refine lv_istore_n (lv' := [(1, .int 0), (0, .ref (a 0))]) hx hb dX6_save_51 rfl hl (by decide) rfl (fun ls hl => ?_)
    exact l52 sm bw_fu _ _ _ rows 0 h hI (lv_sub hl [1,0] rfl)
  have l11 : ∀ (sm : Int32) (n : Nat) (H : Heap) (locs : List Loc) (ls : Array Slot) (rows : bw_A1) (x1 : Int32), lX6_save_11 z sm n rows x1 = some (rows', sm') → bw_I G A s.heap (bw_mW cy a z rows asd sm buf bm th od om ow ca bo la pl to rd hh) H locs → lv_has ls 2 [(0, .ref (a 0)), (1, .int x1)] → W p l e (bw_rm 0 0) s m [.ref (a 0)].toArray below meth c H locs 0 0 Q (F0 m 11 ls []) := by
    intro sm n
    induction n with
    | zero => intro H locs ls rows x1 h; exact bw_none h
    | succ n ih =>
      intro H locs ls rows x1 h hI hl
      have h : bX6_save_11  (lX6_save_11 z sm n) z sm rows x1 = some (rows', sm') := h
      unfold bX6_save_11 at h
      refine lv_iload_n hx hb dX6_save_11 rfl (lv_at hl 1 rfl) ?_
      refine lv_sipush (v := 2220) hx hb dX6_save_12 (by decide) ?_
      refine lv_icmp_ge (tgt := 40) hx hb dX6_save_15 (by decide) (fun c_15 => ?_) (fun c_15 => ?_)
      · rw [if_pos c_15] at h
        refine lv_aload_n hx hb dX6_save_40 rfl (lv_at hl 0 rfl) ?_
        refine lv_dup hx hb dX6_save_41 rfl ?_
        refine bw_get S hK hI 0 3 rfl rfl (by decide) i_X6 f_X6_32 rfl dX6_save_42 ?_
        refine lv_iconst (v := 1) hx hb dX6_save_45 rfl ?_
        refine lv_isub hx hb dX6_save_46 ?_
        refine lv_topi (fun sm_47 e_47 => ?_)
        have h := bw_let_e h e_47
        clear e_47
        refine bw_put S hK hI 0 3 (ws' := (bw_mW cy a z rows asd sm_47 buf bm th od om ow ca bo la pl to rd hh)) tyX6 tyX6_ok nmX6 rfl rfl (by decide) i_X6 f_X6_32 rfl rfl rfl rfl (Nat.le_of_ble_eq_true rfl) rfl dX6_save_47 (fun H locs hI => ?_)
        exact j50 rows sm_47 _ _ _ h hI (lv_sub hl [0] rfl)
      rw [if_neg c_15] at h
      refine lv_aload_n hx hb dX6_save_18 rfl (lv_at hl 0 rfl) ?_
      refine bw_get S hK hI 0 1 rfl rfl (by decide) i_X6 f_X6_13 rfl dX6_save_19 ?_
      refine lv_iload_n hx hb dX6_save_22 rfl (lv_at hl 1 rfl) ?_
      refine lv_aload_n hx hb dX6_save_23 rfl (lv_at hl 0 rfl) ?_
      refine bw_get S hK hI 0 1 rfl rfl (by decide) i_X6 f_X6_13 rfl dX6_save_24 ?_
      refine lv_iload_n hx hb dX6_save_27 rfl (lv_at hl 1 rfl) ?_
      refine lv_sipush (v := 444) hx hb dX6_save_28 (by decide) ?_
      refine lv_iadd hx hb dX6_save_31 ?_
      obtain ⟨v32, hv, h⟩ := bw_b1_e h
      refine bw_iald hx hb hK hI 2 hv rfl dX6_save_32 ?_
      obtain ⟨rows_33, hv, h⟩ := bw_b1_e h
      refine bw_iast hx hb hK hI 2 (ws' := (bw_mW cy a z rows_33 asd sm buf bm th od om ow ca bo la pl to rd hh)) hv rfl rfl dX6_save_33 (fun H locs hI => ?_)
      obtain ⟨x1_34, e_34⟩ : ∃ y : Int32, y = x1 + 1 := ⟨_, rfl⟩
      have h := bw_let_e h e_34
      refine lv_iinc (v := x1_34) (lv' := [(1, .int x1_34), (0, .ref (a 0))]) hx hb dX6_save_34 hl (k := 1) rfl (by rw [e_34]; rfl) (by decide) rfl (fun ls hl => ?_)
      clear e_34
      refine lv_goto (tgt := 11) hx hb dX6_save_37 (by decide) ?_
      exact ih _ _ _ rows_33 x1_34 h hI (lv_sub hl [1,0] rfl)
  unfold fX6_save at h
  refine lv_aload_n hx hb dX6_save_0 rfl (lv_at hl 0 rfl) ?_
  refine bw_get S hK hI 0 3 rfl rfl (by decide) i_X6 f_X6_32 rfl dX6_save_1 ?_
  refine lv_bipush (v := 6) hx hb dX6_save_4 (by decide) ?_
  refine lv_icmp_ne (tgt := 50) hx hb dX6_save_6 (by decide) (fun c_6 => ?_) (fun c_6 => ?_)
  · rw [if_neg c_6] at h
    exact j50 rows sm _ _ _ h hI (lv_sub hl [0] rfl)
  rw [if_pos c_6] at h
  refine lv_iconst (v := 0) hx hb dX6_save_9 rfl ?_
  refine lv_istore_n (lv' := [(1, .int 0), (0, .ref (a 0))]) hx hb dX6_save_10 rfl hl (by decide) rfl (fun ls hl => ?_)
  exact l11 sm bw_fu _ _ _ rows 0 h hI (lv_sub hl [1,0] rfl)
set_option maxHeartbeats 4000000 in
set_option maxRecDepth 100000 in
theorem mX6_putAside (l : Launch) (G : va_G) (cy : Nat → ClassId) (g : Nat) (a : Nat → Nat) (z : bw_A1) (rows : bw_A1) (asd : bw_A1) (sm : Int32) (buf : bw_A1) (bm : Int32) (th : Int32) (od : bw_A1) (om : Int32) (ow : Int32) (ca : Int32) (bo : Int32) (la : Int32) (pl : Int32) (to : Int32) (rd : bw_A1) (hh : Int64) (asd' : bw_A1) (h : fX6_putAside z asd = some asd') : bw_M l yX6_putAside cX6_putAside 2 none 0 0 G cy g [.ref (a 0)] (bw_mW cy a z rows asd sm buf bm th od om ow ca bo la pl to rd hh) none (bw_mW cy a z rows asd' sm buf bm th od om ow ca bo la pl to rd hh) := by
  refine bw_ofW (by decide +kernel) RX6 rfl (Nat.le_of_ble_eq_true rfl) ?_
  intro p e s m below meth c ls S hr hlocks hK hZ hI hl
  have hx := S.1
  have hb := S.2.1
  have hown := S.2.2.2.1
  have hts := S.2.2.2.2
  generalize va_A _ s.heap.size = A at hI hZ ⊢
  generalize hQ : MQ below _ _ s 0 0 A = Q
  have hl : lv_has ls 2 [(0, .ref (a 0))] := hl
  have l2 : ∀  (n : Nat) (H : Heap) (locs : List Loc) (ls : Array Slot) (asd : bw_A1) (x1 : Int32), lX6_putAside_2 z n asd x1 = some asd' → bw_I G A s.heap (bw_mW cy a z rows asd sm buf bm th od om ow ca bo la pl to rd hh) H locs → lv_has ls 2 [(0, .ref (a 0)), (1, .int x1)] → W p l e (bw_rm 0 0) s m [.ref (a 0)].toArray below meth c H locs 0 0 Q (F0 m 2 ls []) := by
    intro  n
    induction n with
    | zero => intro H locs ls asd x1 h; exact bw_none h
    | succ n ih =>
      intro H locs ls asd x1 h hI hl
      have h : bX6_putAside_2  (lX6_putAside_2 z n) z asd x1 = some asd' := h
      unfold bX6_putAside_2 at h
      refine lv_iload_n hx hb dX6_putAside_2 rfl (lv_at hl 1 rfl) ?_
      refine lv_sipush (v := 444) hx hb dX6_putAside_3 (by decide) ?_
      refine lv_icmp_ge (tgt := 27) hx hb dX6_putAside_6 (by decide) (fun c_6 => ?_) (fun c_6 => ?_)
      · rw [if_pos c_6] at h
        exact bw_vret (d := asd) (rr := asd') S hr hlocks h (fun q : bw_A1 => (bw_mW cy a z rows q sm buf bm th od om ow ca bo la pl to rd hh)) hI dX6_putAside_27 hQ
      rw [if_neg c_6] at h
      refine lv_aload_n hx hb dX6_putAside_9 rfl (lv_at hl 0 rfl) ?_
      refine bw_get S hK hI 0 2 rfl rfl (by decide) i_X6 f_X6_16 rfl dX6_putAside_10 ?_
      refine lv_iload_n hx hb dX6_putAside_13 rfl (lv_at hl 1 rfl) ?_
      refine lv_aload_n hx hb dX6_putAside_14 rfl (lv_at hl 0 rfl) ?_
      refine bw_get S hK hI 0 0 rfl rfl (by decide) i_X6 f_X6_7 rfl dX6_putAside_15 ?_
      refine lv_iload_n hx hb dX6_putAside_18 rfl (lv_at hl 1 rfl) ?_
      obtain ⟨v19, hv, h⟩ := bw_b1_e h
      refine bw_iald hx hb hK hI 1 hv rfl dX6_putAside_19 ?_
      obtain ⟨asd_20, hv, h⟩ := bw_b1_e h
      refine bw_iast hx hb hK hI 3 (ws' := (bw_mW cy a z rows asd_20 sm buf bm th od om ow ca bo la pl to rd hh)) hv rfl rfl dX6_putAside_20 (fun H locs hI => ?_)
      obtain ⟨x1_21, e_21⟩ : ∃ y : Int32, y = x1 + 1 := ⟨_, rfl⟩
      have h := bw_let_e h e_21
      refine lv_iinc (v := x1_21) (lv' := [(1, .int x1_21), (0, .ref (a 0))]) hx hb dX6_putAside_21 hl (k := 1) rfl (by rw [e_21]; rfl) (by decide) rfl (fun ls hl => ?_)
      clear e_21
      refine lv_goto (tgt := 2) hx hb dX6_putAside_24 (by decide) ?_
      exact ih _ _ _ asd_20 x1_21 h hI (lv_sub hl [1,0] rfl)
  unfold fX6_putAside at h
  refine lv_iconst (v := 0) hx hb dX6_putAside_0 rfl ?_
  refine lv_istore_n (lv' := [(1, .int 0), (0, .ref (a 0))]) hx hb dX6_putAside_1 rfl hl (by decide) rfl (fun ls hl => ?_)
  exact l2  bw_fu _ _ _ asd 0 h hI (lv_sub hl [1,0] rfl)
set_option maxHeartbeats 4000000 in
set_option maxRecDepth 100000 in
theorem mX6_putBack (l : Launch) (G : va_G) (cy : Nat → ClassId) (g : Nat) (a : Nat → Nat) (z : bw_A1) (rows : bw_A1) (asd : bw_A1) (sm : Int32) (buf : bw_A1) (bm : Int32) (th : Int32) (od : bw_A1) (om : Int32) (ow : Int32) (ca : Int32) (bo : Int32) (la : Int32) (pl : Int32) (to : Int32) (rd : bw_A1) (hh : Int64) (z' : bw_A1) (h : fX6_putBack z asd = some z') : bw_M l yX6_putBack cX6_putBack 2 none 0 0 G cy g [.ref (a 0)] (bw_mW cy a z rows asd sm buf bm th od om ow ca bo la pl to rd hh) none (bw_mW cy a z' rows asd sm buf bm th od om ow ca bo la pl to rd hh) := by
  refine bw_ofW (by decide +kernel) RX6 rfl (Nat.le_of_ble_eq_true rfl) ?_
  intro p e s m below meth c ls S hr hlocks hK hZ hI hl
  have hx := S.1
  have hb := S.2.1
  have hown := S.2.2.2.1
  have hts := S.2.2.2.2
  generalize va_A _ s.heap.size = A at hI hZ ⊢
  generalize hQ : MQ below _ _ s 0 0 A = Q
  have hl : lv_has ls 2 [(0, .ref (a 0))] := hl
  have l2 : ∀  (n : Nat) (H : Heap) (locs : List Loc) (ls : Array Slot) (z : bw_A1) (x1 : Int32), lX6_putBack_2 asd n z x1 = some z' → bw_I G A s.heap (bw_mW cy a z rows asd sm buf bm th od om ow ca bo la pl to rd hh) H locs → lv_has ls 2 [(0, .ref (a 0)), (1, .int x1)] → W p l e (bw_rm 0 0) s m [.ref (a 0)].toArray below meth c H locs 0 0 Q (F0 m 2 ls []) := by
    intro  n
    induction n with
    | zero => intro H locs ls z x1 h; exact bw_none h
    | succ n ih =>
      intro H locs ls z x1 h hI hl
      have h : bX6_putBack_2  (lX6_putBack_2 asd n) asd z x1 = some z' := h
      unfold bX6_putBack_2 at h
      refine lv_iload_n hx hb dX6_putBack_2 rfl (lv_at hl 1 rfl) ?_
      refine lv_sipush (v := 444) hx hb dX6_putBack_3 (by decide) ?_
      refine lv_icmp_ge (tgt := 27) hx hb dX6_putBack_6 (by decide) (fun c_6 => ?_) (fun c_6 => ?_)
      · rw [if_pos c_6] at h
        exact bw_vret (d := z) (rr := z') S hr hlocks h (fun q : bw_A1 => (bw_mW cy a q rows asd sm buf bm th od om ow ca bo la pl to rd hh)) hI dX6_putBack_27 hQ
      rw [if_neg c_6] at h
      refine lv_aload_n hx hb dX6_putBack_9 rfl (lv_at hl 0 rfl) ?_
      refine bw_get S hK hI 0 0 rfl rfl (by decide) i_X6 f_X6_7 rfl dX6_putBack_10 ?_
      refine lv_iload_n hx hb dX6_putBack_13 rfl (lv_at hl 1 rfl) ?_
      refine lv_aload_n hx hb dX6_putBack_14 rfl (lv_at hl 0 rfl) ?_
      refine bw_get S hK hI 0 2 rfl rfl (by decide) i_X6 f_X6_16 rfl dX6_putBack_15 ?_
      refine lv_iload_n hx hb dX6_putBack_18 rfl (lv_at hl 1 rfl) ?_
      obtain ⟨v19, hv, h⟩ := bw_b1_e h
      refine bw_iald hx hb hK hI 3 hv rfl dX6_putBack_19 ?_
      obtain ⟨z_20, hv, h⟩ := bw_b1_e h
      refine bw_iast hx hb hK hI 1 (ws' := (bw_mW cy a z_20 rows asd sm buf bm th od om ow ca bo la pl to rd hh)) hv rfl rfl dX6_putBack_20 (fun H locs hI => ?_)
      obtain ⟨x1_21, e_21⟩ : ∃ y : Int32, y = x1 + 1 := ⟨_, rfl⟩
      have h := bw_let_e h e_21
      refine lv_iinc (v := x1_21) (lv' := [(1, .int x1_21), (0, .ref (a 0))]) hx hb dX6_putBack_21 hl (k := 1) rfl (by rw [e_21]; rfl) (by decide) rfl (fun ls hl => ?_)
      clear e_21
      refine lv_goto (tgt := 2) hx hb dX6_putBack_24 (by decide) ?_
      exact ih _ _ _ z_20 x1_21 h hI (lv_sub hl [1,0] rfl)
  unfold fX6_putBack at h
  refine lv_iconst (v := 0) hx hb dX6_putBack_0 rfl ?_
  refine lv_istore_n (lv' := [(1, .int 0), (0, .ref (a 0))]) hx hb dX6_putBack_1 rfl hl (by decide) rfl (fun ls hl => ?_)
  exact l2  bw_fu _ _ _ z 0 h hI (lv_sub hl [1,0] rfl)
set_option maxHeartbeats 4000000 in
set_option maxRecDepth 100000 in
theorem mX6_at (l : Launch) (G : va_G) (cy : Nat → ClassId) (g : Nat) (p0 : Int32) (r : Int32) (h : fX6_at p0 = some r) : bw_M l yX6_at cX6_at 1 (some .int) 0 0 G cy g [.int p0] [] (some (.int r)) [] := by
  refine bw_ofW (by decide +kernel) RX6 rfl (Nat.le_of_ble_eq_true rfl) ?_
  intro p e s m below meth c ls S hr hlocks hK hZ hI hl
  have hx := S.1
  have hb := S.2.1
  have hown := S.2.2.2.1
  have hts := S.2.2.2.2
  generalize va_A _ s.heap.size = A at hI hZ ⊢
  generalize hQ : MQ below _ _ s 0 0 A = Q
  have hl : lv_has ls 1 [(0, .int p0)] := hl
  unfold fX6_at at h
  refine lv_bipush (v := 6) hx hb dX6_at_0 (by decide) ?_
  refine lv_bipush (v := 58) hx hb dX6_at_2 (by decide) ?_
  refine lv_iload_n hx hb dX6_at_4 rfl (lv_at hl 0 rfl) ?_
  refine lv_imul hx hb dX6_at_5 ?_
  refine lv_iadd hx hb dX6_at_6 ?_
  exact bw_iretP S hr hlocks h hI rfl dX6_at_7 hQ
set_option maxHeartbeats 4000000 in
set_option maxRecDepth 100000 in
theorem mX6_loanAt (l : Launch) (G : va_G) (cy : Nat → ClassId) (g : Nat) (p0 : Int32) (r : Int32) (h : fX6_loanAt p0 = some r) : bw_M l yX6_loanAt cX6_loanAt 1 (some .int) 0 0 G cy g [.int p0] [] (some (.int r)) [] := by
  refine bw_ofW (by decide +kernel) RX6 rfl (Nat.le_of_ble_eq_true rfl) ?_
  intro p e s m below meth c ls S hr hlocks hK hZ hI hl
  have hx := S.1
  have hb := S.2.1
  have hown := S.2.2.2.1
  have hts := S.2.2.2.2
  generalize va_A _ s.heap.size = A at hI hZ ⊢
  generalize hQ : MQ below _ _ s 0 0 A = Q
  have hl : lv_has ls 1 [(0, .int p0)] := hl
  unfold fX6_loanAt at h
  refine lv_sipush (v := 354) hx hb dX6_loanAt_0 (by decide) ?_
  refine lv_iconst (v := 3) hx hb dX6_loanAt_3 rfl ?_
  refine lv_iload_n hx hb dX6_loanAt_4 rfl (lv_at hl 0 rfl) ?_
  refine lv_imul hx hb dX6_loanAt_5 ?_
  refine lv_iadd hx hb dX6_loanAt_6 ?_
  exact bw_iretP S hr hlocks h hI rfl dX6_loanAt_7 hQ
set_option maxHeartbeats 4000000 in
set_option maxRecDepth 100000 in
theorem mX6_isProject (l : Launch) (G : va_G) (cy : Nat → ClassId) (g : Nat) (a : Nat → Nat) (z : bw_A1) (rows : bw_A1) (asd : bw_A1) (sm : Int32) (buf : bw_A1) (bm : Int32) (th : Int32) (od : bw_A1) (om : Int32) (ow : Int32) (ca : Int32) (bo : Int32) (la : Int32) (pl : Int32) (to : Int32) (rd : bw_A1) (hh : Int64) (p1 : Int32) (r : Int32) (h : fX6_isProject z p1 = some r) : bw_M l yX6_isProject cX6_isProject 2 (some .boolean) 1 22 G cy g [.ref (a 0), .int p1] (bw_mW cy a z rows asd sm buf bm th od om ow ca bo la pl to rd hh) (some (.int r)) (bw_mW cy a z rows asd sm buf bm th od om ow ca bo la pl to rd hh) := by
  refine bw_ofW (by decide +kernel) RX6 rfl (Nat.le_of_ble_eq_true rfl) ?_
  intro p e s m below meth c ls S hr hlocks hK hZ hI hl
  have hx := S.1
  have hb := S.2.1
  have hown := S.2.2.2.1
  have hts := S.2.2.2.2
  generalize va_A _ s.heap.size = A at hI hZ ⊢
  generalize hQ : MQ below _ _ s 0 0 A = Q
  have hl : lv_has ls 2 [(0, .ref (a 0)), (1, .int p1)] := hl
  unfold fX6_isProject at h
  refine lv_iload_n hx hb dX6_isProject_0 rfl (lv_at hl 1 rfl) ?_
  refine lv_iconst (v := 0) hx hb dX6_isProject_1 rfl ?_
  refine lv_aload_n hx hb dX6_isProject_2 rfl (lv_at hl 0 rfl) ?_
  refine bw_get S hK hI 0 0 rfl rfl (by decide) i_X6 f_X6_7 rfl dX6_isProject_3 ?_
  refine lv_iconst (v := 0) hx hb dX6_isProject_6 rfl ?_
  obtain ⟨v7, hv, h⟩ := bw_b1_e h
  refine bw_iald hx hb hK hI 1 hv rfl dX6_isProject_7 ?_
  refine lv_iconst (v := 1) hx hb dX6_isProject_8 rfl ?_
  refine lv_isub hx hb dX6_isProject_9 ?_
  obtain ⟨r10, hc, h⟩ := bw_b1_e h
  refine bw_callP S hK hZ hI (mX6_in l G cy g p1 0 (v7 - 1) r10 hc) Y_X6_in V_X6_in l_X6_35 ⟨(Nat.le_of_ble_eq_true rfl), (Nat.le_of_ble_eq_true rfl)⟩ (rest := []) (st1 := [.int r10]) rfl hl.1 rfl rfl (Nat.le_of_ble_eq_true rfl) dX6_isProject_10 ⟨(Nat.le_of_ble_eq_true rfl), (Nat.le_of_ble_eq_true rfl)⟩ (fun H locs hI => ?_)
  obtain ⟨h9, h⟩ := bw_bool_e h
  exact bw_iretP S hr hlocks h hI h9 dX6_isProject_13 hQ
set_option maxHeartbeats 4000000 in
set_option maxRecDepth 100000 in
theorem mX6_isOpen (l : Launch) (G : va_G) (cy : Nat → ClassId) (g : Nat) (a : Nat → Nat) (z : bw_A1) (rows : bw_A1) (asd : bw_A1) (sm : Int32) (buf : bw_A1) (bm : Int32) (th : Int32) (od : bw_A1) (om : Int32) (ow : Int32) (ca : Int32) (bo : Int32) (la : Int32) (pl : Int32) (to : Int32) (rd : bw_A1) (hh : Int64) (p1 : Int32) (r : Int32) (h : fX6_isOpen z p1 = some r) : bw_M l yX6_isOpen cX6_isOpen 2 (some .boolean) 1 20 G cy g [.ref (a 0), .int p1] (bw_mW cy a z rows asd sm buf bm th od om ow ca bo la pl to rd hh) (some (.int r)) (bw_mW cy a z rows asd sm buf bm th od om ow ca bo la pl to rd hh) := by
  refine bw_ofW (by decide +kernel) RX6 rfl (Nat.le_of_ble_eq_true rfl) ?_
  intro p e s m below meth c ls S hr hlocks hK hZ hI hl
  have hx := S.1
  have hb := S.2.1
  have hown := S.2.2.2.1
  have hts := S.2.2.2.2
  generalize va_A _ s.heap.size = A at hI hZ ⊢
  generalize hQ : MQ below _ _ s 0 0 A = Q
  have hl : lv_has ls 2 [(0, .ref (a 0)), (1, .int p1)] := hl
  unfold fX6_isOpen at h
  refine lv_aload_n hx hb dX6_isOpen_0 rfl (lv_at hl 0 rfl) ?_
  refine bw_get S hK hI 0 0 rfl rfl (by decide) i_X6 f_X6_7 rfl dX6_isOpen_1 ?_
  refine lv_iload_n hx hb dX6_isOpen_4 rfl (lv_at hl 1 rfl) ?_
  obtain ⟨r5, hc, h⟩ := bw_b1_e h
  refine bw_callP S hK hZ hI (mX6_at l G cy g p1 r5 hc) Y_X6_at V_X6_at l_X6_39 ⟨(Nat.le_of_ble_eq_true rfl), (Nat.le_of_ble_eq_true rfl)⟩ (rest := [.ref (a 1)]) (st1 := [.int r5, .ref (a 1)]) rfl hl.1 rfl rfl (Nat.le_of_ble_eq_true rfl) dX6_isOpen_5 ⟨(Nat.le_of_ble_eq_true rfl), (Nat.le_of_ble_eq_true rfl)⟩ (fun H locs hI => ?_)
  refine lv_bipush (v := 7) hx hb dX6_isOpen_8 (by decide) ?_
  refine lv_iadd hx hb dX6_isOpen_10 ?_
  obtain ⟨v11, hv, h⟩ := bw_b1_e h
  refine bw_iald hx hb hK hI 1 hv rfl dX6_isOpen_11 ?_
  refine lv_iconst (v := 1) hx hb dX6_isOpen_12 rfl ?_
  refine lv_icmp_ne (tgt := 20) hx hb dX6_isOpen_13 (by decide) (fun c_13 => ?_) (fun c_13 => ?_)
  · rw [if_neg c_13] at h
    refine lv_iconst (v := 0) hx hb dX6_isOpen_20 rfl ?_
    exact bw_iretP S hr hlocks h hI rfl dX6_isOpen_21 hQ
  rw [if_pos c_13] at h
  refine lv_iconst (v := 1) hx hb dX6_isOpen_16 rfl ?_
  refine lv_goto (tgt := 21) hx hb dX6_isOpen_17 (by decide) ?_
  exact bw_iretP S hr hlocks h hI rfl dX6_isOpen_21 hQ
set_option maxHeartbeats 4000000 in
set_option maxRecDepth 100000 in
theorem mX6_hasNext (l : Launch) (G : va_G) (cy : Nat → ClassId) (g : Nat) (a : Nat → Nat) (z : bw_A1) (rows : bw_A1) (asd : bw_A1) (sm : Int32) (buf : bw_A1) (bm : Int32) (th : Int32) (od : bw_A1) (om : Int32) (ow : Int32) (ca : Int32) (bo : Int32) (la : Int32) (pl : Int32) (to : Int32) (rd : bw_A1) (hh : Int64) (p1 : Int32) (r : Int32) (h : fX6_hasNext z p1 = some r) : bw_M l yX6_hasNext cX6_hasNext 2 (some .boolean) 1 20 G cy g [.ref (a 0), .int p1] (bw_mW cy a z rows asd sm buf bm th od om ow ca bo la pl to rd hh) (some (.int r)) (bw_mW cy a z rows asd sm buf bm th od om ow ca bo la pl to rd hh) := by
  refine bw_ofW (by decide +kernel) RX6 rfl (Nat.le_of_ble_eq_true rfl) ?_
  intro p e s m below meth c ls S hr hlocks hK hZ hI hl
  have hx := S.1
  have hb := S.2.1
  have hown := S.2.2.2.1
  have hts := S.2.2.2.2
  generalize va_A _ s.heap.size = A at hI hZ ⊢
  generalize hQ : MQ below _ _ s 0 0 A = Q
  have hl : lv_has ls 2 [(0, .ref (a 0)), (1, .int p1)] := hl
  unfold fX6_hasNext at h
  refine lv_aload_n hx hb dX6_hasNext_0 rfl (lv_at hl 0 rfl) ?_
  refine bw_get S hK hI 0 0 rfl rfl (by decide) i_X6 f_X6_7 rfl dX6_hasNext_1 ?_
  refine lv_iload_n hx hb dX6_hasNext_4 rfl (lv_at hl 1 rfl) ?_
  obtain ⟨r5, hc, h⟩ := bw_b1_e h
  refine bw_callP S hK hZ hI (mX6_at l G cy g p1 r5 hc) Y_X6_at V_X6_at l_X6_39 ⟨(Nat.le_of_ble_eq_true rfl), (Nat.le_of_ble_eq_true rfl)⟩ (rest := [.ref (a 1)]) (st1 := [.int r5, .ref (a 1)]) rfl hl.1 rfl rfl (Nat.le_of_ble_eq_true rfl) dX6_hasNext_5 ⟨(Nat.le_of_ble_eq_true rfl), (Nat.le_of_ble_eq_true rfl)⟩ (fun H locs hI => ?_)
  refine lv_bipush (v := 6) hx hb dX6_hasNext_8 (by decide) ?_
  refine lv_iadd hx hb dX6_hasNext_10 ?_
  obtain ⟨v11, hv, h⟩ := bw_b1_e h
  refine bw_iald hx hb hK hI 1 hv rfl dX6_hasNext_11 ?_
  refine lv_aload_n hx hb dX6_hasNext_12 rfl (lv_at hl 0 rfl) ?_
  refine bw_get S hK hI 0 0 rfl rfl (by decide) i_X6 f_X6_7 rfl dX6_hasNext_13 ?_
  refine lv_iload_n hx hb dX6_hasNext_16 rfl (lv_at hl 1 rfl) ?_
  obtain ⟨r17, hc, h⟩ := bw_b1_e h
  refine bw_callP S hK hZ hI (mX6_at l G cy g p1 r17 hc) Y_X6_at V_X6_at l_X6_39 ⟨(Nat.le_of_ble_eq_true rfl), (Nat.le_of_ble_eq_true rfl)⟩ (rest := [.ref (a 1), .int v11]) (st1 := [.int r17, .ref (a 1), .int v11]) rfl hl.1 rfl rfl (Nat.le_of_ble_eq_true rfl) dX6_hasNext_17 ⟨(Nat.le_of_ble_eq_true rfl), (Nat.le_of_ble_eq_true rfl)⟩ (fun H locs hI => ?_)
  refine lv_iconst (v := 5) hx hb dX6_hasNext_20 rfl ?_
  refine lv_iadd hx hb dX6_hasNext_21 ?_
  obtain ⟨v22, hv, h⟩ := bw_b1_e h
  refine bw_iald hx hb hK hI 1 hv rfl dX6_hasNext_22 ?_
  refine lv_icmp_ge (tgt := 30) hx hb dX6_hasNext_23 (by decide) (fun c_23 => ?_) (fun c_23 => ?_)
  · rw [if_pos c_23] at h
    refine lv_iconst (v := 0) hx hb dX6_hasNext_30 rfl ?_
    exact bw_iretP S hr hlocks h hI rfl dX6_hasNext_31 hQ
  rw [if_neg c_23] at h
  refine lv_iconst (v := 1) hx hb dX6_hasNext_26 rfl ?_
  refine lv_goto (tgt := 31) hx hb dX6_hasNext_27 (by decide) ?_
  exact bw_iretP S hr hlocks h hI rfl dX6_hasNext_31 hQ
set_option maxHeartbeats 4000000 in
set_option maxRecDepth 100000 in
theorem mX6_mayDo (l : Launch) (G : va_G) (cy : Nat → ClassId) (g : Nat) (a : Nat → Nat) (z : bw_A1) (rows : bw_A1) (asd : bw_A1) (sm : Int32) (buf : bw_A1) (bm : Int32) (th : Int32) (od : bw_A1) (om : Int32) (ow : Int32) (ca : Int32) (bo : Int32) (la : Int32) (pl : Int32) (to : Int32) (rd : bw_A1) (hh : Int64) (p1 : Int32) (r : Int32) (h : fX6_mayDo z p1 = some r) : bw_M l yX6_mayDo cX6_mayDo 2 (some .boolean) 2 41 G cy g [.ref (a 0), .int p1] (bw_mW cy a z rows asd sm buf bm th od om ow ca bo la pl to rd hh) (some (.int r)) (bw_mW cy a z rows asd sm buf bm th od om ow ca bo la pl to rd hh) := by
  refine bw_ofW (by decide +kernel) RX6 rfl (Nat.le_of_ble_eq_true rfl) ?_
  intro p e s m below meth c ls S hr hlocks hK hZ hI hl
  have hx := S.1
  have hb := S.2.1
  have hown := S.2.2.2.1
  have hts := S.2.2.2.2
  generalize va_A _ s.heap.size = A at hI hZ ⊢
  generalize hQ : MQ below _ _ s 0 0 A = Q
  have hl : lv_has ls 2 [(0, .ref (a 0)), (1, .int p1)] := hl
  have j20 : ∀  (H : Heap) (locs : List Loc) (ls : Array Slot), jX6_mayDo_20 z = some r → bw_I G A s.heap (bw_mW cy a z rows asd sm buf bm th od om ow ca bo la pl to rd hh) H locs → lv_has ls 2 [] → W p l e (bw_rm 2 41) s m [.ref (a 0), .int p1].toArray below meth c H locs 0 0 Q (F0 m 20 ls []) := by
    intro  H locs ls h hI hl
    unfold jX6_mayDo_20 at h
    refine lv_iconst (v := 0) hx hb dX6_mayDo_20 rfl ?_
    exact bw_iretP S hr hlocks h hI rfl dX6_mayDo_21 hQ
  unfold fX6_mayDo at h
  refine lv_aload_n hx hb dX6_mayDo_0 rfl (lv_at hl 0 rfl) ?_
  refine lv_iload_n hx hb dX6_mayDo_1 rfl (lv_at hl 1 rfl) ?_
  obtain ⟨r2, hc, h⟩ := bw_b1_e h
  refine bw_callV S hK hZ hI (mX6_isOpen l G cy g a z rows asd sm buf bm th od om ow ca bo la pl to rd hh p1 r2 hc) Y_X6_isOpen V_X6_isOpen l_X6_43 ⟨(Nat.le_of_ble_eq_true rfl), (Nat.le_of_ble_eq_true rfl)⟩ (q0 := 0) rfl rfl rfl (ws' := (bw_mW cy a z rows asd sm buf bm th od om ow ca bo la pl to rd hh)) (bw_pS _) (bw_pS' _) rfl rfl hl.1 (rest := []) (st1 := [.int r2]) rfl rfl (Nat.le_of_ble_eq_true rfl) dX6_mayDo_2 ⟨(Nat.le_of_ble_eq_true rfl), (Nat.le_of_ble_eq_true rfl)⟩ (fun H locs hI => ?_)
  refine lv_if_eq (tgt := 20) hx hb dX6_mayDo_5 (by decide) (fun c_5 => ?_) (fun c_5 => ?_)
  · rw [if_pos c_5] at h
    exact j20  _ _ _ h hI (lv_sub hl [] rfl)
  rw [if_neg c_5] at h
  refine lv_aload_n hx hb dX6_mayDo_8 rfl (lv_at hl 0 rfl) ?_
  refine lv_iload_n hx hb dX6_mayDo_9 rfl (lv_at hl 1 rfl) ?_
  obtain ⟨r10, hc, h⟩ := bw_b1_e h
  refine bw_callV S hK hZ hI (mX6_hasNext l G cy g a z rows asd sm buf bm th od om ow ca bo la pl to rd hh p1 r10 hc) Y_X6_hasNext V_X6_hasNext l_X6_47 ⟨(Nat.le_of_ble_eq_true rfl), (Nat.le_of_ble_eq_true rfl)⟩ (q0 := 0) rfl rfl rfl (ws' := (bw_mW cy a z rows asd sm buf bm th od om ow ca bo la pl to rd hh)) (bw_pS _) (bw_pS' _) rfl rfl hl.1 (rest := []) (st1 := [.int r10]) rfl rfl (Nat.le_of_ble_eq_true rfl) dX6_mayDo_10 ⟨(Nat.le_of_ble_eq_true rfl), (Nat.le_of_ble_eq_true rfl)⟩ (fun H locs hI => ?_)
  refine lv_if_eq (tgt := 20) hx hb dX6_mayDo_13 (by decide) (fun c_13 => ?_) (fun c_13 => ?_)
  · rw [if_pos c_13] at h
    exact j20  _ _ _ h hI (lv_sub hl [] rfl)
  rw [if_neg c_13] at h
  refine lv_iconst (v := 1) hx hb dX6_mayDo_16 rfl ?_
  refine lv_goto (tgt := 21) hx hb dX6_mayDo_17 (by decide) ?_
  exact bw_iretP S hr hlocks h hI rfl dX6_mayDo_21 hQ
set_option maxHeartbeats 4000000 in
set_option maxRecDepth 100000 in
theorem mX6_placeOf (l : Launch) (G : va_G) (cy : Nat → ClassId) (g : Nat) (a : Nat → Nat) (z : bw_A1) (rows : bw_A1) (asd : bw_A1) (sm : Int32) (buf : bw_A1) (bm : Int32) (th : Int32) (od : bw_A1) (om : Int32) (ow : Int32) (ca : Int32) (bo : Int32) (la : Int32) (pl : Int32) (to : Int32) (rd : bw_A1) (hh : Int64) (p1 : Int32) (p2 : Int32) (r : Int32) (h : fX6_placeOf z p1 p2 = some r) : bw_M l yX6_placeOf cX6_placeOf 4 (some .int) 1 20 G cy g [.ref (a 0), .int p1, .int p2] (bw_mW cy a z rows asd sm buf bm th od om ow ca bo la pl to rd hh) (some (.int r)) (bw_mW cy a z rows asd sm buf bm th od om ow ca bo la pl to rd hh) := by
  refine bw_ofW (by decide +kernel) RX6 rfl (Nat.le_of_ble_eq_true rfl) ?_
  intro p e s m below meth c ls S hr hlocks hK hZ hI hl
  have hx := S.1
  have hb := S.2.1
  have hown := S.2.2.2.1
  have hts := S.2.2.2.2
  generalize va_A _ s.heap.size = A at hI hZ ⊢
  generalize hQ : MQ below _ _ s 0 0 A = Q
  have hl : lv_has ls 4 [(0, .ref (a 0)), (1, .int p1), (2, .int p2)] := hl
  have j42 : ∀ (x1 : Int32) (x2 : Int32) (x3 : Int32) (k2 : Int32 → Option Int32) (hk2 : ∀ (H : Heap) (locs : List Loc) (ls : Array Slot) (x3_ : Int32), k2 x3_ = some r → bw_I G A s.heap (bw_mW cy a z rows asd sm buf bm th od om ow ca bo la pl to rd hh) H locs → lv_has ls 4 [(0, .ref (a 0)), (1, .int x1), (2, .int x2), (3, .int x3_)] → W p l e (bw_rm 1 20) s m [.ref (a 0), .int p1, .int p2].toArray below meth c H locs 0 0 Q (F0 m 2 ls [])) (H : Heap) (locs : List Loc) (ls : Array Slot), jX6_placeOf_42 k2 z x1 x2 x3 = some r → bw_I G A s.heap (bw_mW cy a z rows asd sm buf bm th od om ow ca bo la pl to rd hh) H locs → lv_has ls 4 [(0, .ref (a 0)), (1, .int x1), (2, .int x2), (3, .int x3)] → W p l e (bw_rm 1 20) s m [.ref (a 0), .int p1, .int p2].toArray below meth c H locs 0 0 Q (F0 m 42 ls []) := by
    intro x1 x2 x3 k2 hk2 H locs ls h hI hl
    unfold jX6_placeOf_42 at h
    obtain ⟨x3_42, e_42⟩ : ∃ y : Int32, y = x3 + 1 := ⟨_, rfl⟩
    have h := bw_let_e h e_42
    refine lv_iinc (v := x3_42) (lv' := [(3, .int x3_42), (0, .ref (a 0)), (1, .int x1), (2, .int x2)]) hx hb dX6_placeOf_42 hl (k := 3) rfl (by rw [e_42]; rfl) (by decide) rfl (fun ls hl => ?_)
    clear e_42
    refine lv_goto (tgt := 2) hx hb dX6_placeOf_45 (by decide) ?_
    exact hk2 _ _ _ x3_42 h hI (lv_sub hl [1,2,3,0] rfl)
  have l2 : ∀ (x1 : Int32) (x2 : Int32) (n : Nat) (H : Heap) (locs : List Loc) (ls : Array Slot) (x3 : Int32), lX6_placeOf_2 z x1 x2 n x3 = some r → bw_I G A s.heap (bw_mW cy a z rows asd sm buf bm th od om ow ca bo la pl to rd hh) H locs → lv_has ls 4 [(0, .ref (a 0)), (1, .int x1), (2, .int x2), (3, .int x3)] → W p l e (bw_rm 1 20) s m [.ref (a 0), .int p1, .int p2].toArray below meth c H locs 0 0 Q (F0 m 2 ls []) := by
    intro x1 x2 n
    induction n with
    | zero => intro H locs ls x3 h; exact bw_none h
    | succ n ih =>
      intro H locs ls x3 h hI hl
      have h : bX6_placeOf_2  (lX6_placeOf_2 z x1 x2 n) z x1 x2 x3 = some r := h
      unfold bX6_placeOf_2 at h
      refine lv_iload_n hx hb dX6_placeOf_2 rfl (lv_at hl 3 rfl) ?_
      refine lv_aload_n hx hb dX6_placeOf_3 rfl (lv_at hl 0 rfl) ?_
      refine bw_get S hK hI 0 0 rfl rfl (by decide) i_X6 f_X6_7 rfl dX6_placeOf_4 ?_
      refine lv_iconst (v := 1) hx hb dX6_placeOf_7 rfl ?_
      obtain ⟨v8, hv, h⟩ := bw_b1_e h
      refine bw_iald hx hb hK hI 1 hv rfl dX6_placeOf_8 ?_
      refine lv_icmp_ge (tgt := 48) hx hb dX6_placeOf_9 (by decide) (fun c_9 => ?_) (fun c_9 => ?_)
      · rw [if_pos c_9] at h
        refine lv_iconst (v := (-1)) hx hb dX6_placeOf_48 rfl ?_
        exact bw_iretP S hr hlocks h hI rfl dX6_placeOf_49 hQ
      rw [if_neg c_9] at h
      refine lv_aload_n hx hb dX6_placeOf_12 rfl (lv_at hl 0 rfl) ?_
      refine bw_get S hK hI 0 0 rfl rfl (by decide) i_X6 f_X6_7 rfl dX6_placeOf_13 ?_
      refine lv_iload_n hx hb dX6_placeOf_16 rfl (lv_at hl 3 rfl) ?_
      obtain ⟨r17, hc, h⟩ := bw_b1_e h
      refine bw_callP S hK hZ hI (mX6_loanAt l G cy g x3 r17 hc) Y_X6_loanAt V_X6_loanAt l_X6_50 ⟨(Nat.le_of_ble_eq_true rfl), (Nat.le_of_ble_eq_true rfl)⟩ (rest := [.ref (a 1)]) (st1 := [.int r17, .ref (a 1)]) rfl hl.1 rfl rfl (Nat.le_of_ble_eq_true rfl) dX6_placeOf_17 ⟨(Nat.le_of_ble_eq_true rfl), (Nat.le_of_ble_eq_true rfl)⟩ (fun H locs hI => ?_)
      obtain ⟨v20, hv, h⟩ := bw_b1_e h
      refine bw_iald hx hb hK hI 1 hv rfl dX6_placeOf_20 ?_
      refine lv_iload_n hx hb dX6_placeOf_21 rfl (lv_at hl 1 rfl) ?_
      refine lv_icmp_ne (tgt := 42) hx hb dX6_placeOf_22 (by decide) (fun c_22 => ?_) (fun c_22 => ?_)
      · rw [if_neg c_22] at h
        exact j42 x1 x2 x3 (lX6_placeOf_2 z x1 x2 n) ih _ _ _ h hI (lv_sub hl [0,1,2,3] rfl)
      rw [if_pos c_22] at h
      refine lv_aload_n hx hb dX6_placeOf_25 rfl (lv_at hl 0 rfl) ?_
      refine bw_get S hK hI 0 0 rfl rfl (by decide) i_X6 f_X6_7 rfl dX6_placeOf_26 ?_
      refine lv_iload_n hx hb dX6_placeOf_29 rfl (lv_at hl 3 rfl) ?_
      obtain ⟨r30, hc, h⟩ := bw_b1_e h
      refine bw_callP S hK hZ hI (mX6_loanAt l G cy g x3 r30 hc) Y_X6_loanAt V_X6_loanAt l_X6_50 ⟨(Nat.le_of_ble_eq_true rfl), (Nat.le_of_ble_eq_true rfl)⟩ (rest := [.ref (a 1)]) (st1 := [.int r30, .ref (a 1)]) rfl hl.1 rfl rfl (Nat.le_of_ble_eq_true rfl) dX6_placeOf_30 ⟨(Nat.le_of_ble_eq_true rfl), (Nat.le_of_ble_eq_true rfl)⟩ (fun H locs hI => ?_)
      refine lv_iconst (v := 1) hx hb dX6_placeOf_33 rfl ?_
      refine lv_iadd hx hb dX6_placeOf_34 ?_
      obtain ⟨v35, hv, h⟩ := bw_b1_e h
      refine bw_iald hx hb hK hI 1 hv rfl dX6_placeOf_35 ?_
      refine lv_iload_n hx hb dX6_placeOf_36 rfl (lv_at hl 2 rfl) ?_
      refine lv_icmp_ne (tgt := 42) hx hb dX6_placeOf_37 (by decide) (fun c_37 => ?_) (fun c_37 => ?_)
      · rw [if_neg c_37] at h
        exact j42 x1 x2 x3 (lX6_placeOf_2 z x1 x2 n) ih _ _ _ h hI (lv_sub hl [0,1,2,3] rfl)
      rw [if_pos c_37] at h
      refine lv_iload_n hx hb dX6_placeOf_40 rfl (lv_at hl 3 rfl) ?_
      exact bw_iretP S hr hlocks h hI rfl dX6_placeOf_41 hQ
  unfold fX6_placeOf at h
  refine lv_iconst (v := 0) hx hb dX6_placeOf_0 rfl ?_
  refine lv_istore_n (lv' := [(3, .int 0), (0, .ref (a 0)), (1, .int p1), (2, .int p2)]) hx hb dX6_placeOf_1 rfl hl (by decide) rfl (fun ls hl => ?_)
  exact l2 p1 p2 bw_fu _ _ _ 0 h hI (lv_sub hl [1,2,3,0] rfl)
set_option maxHeartbeats 4000000 in
set_option maxRecDepth 100000 in
theorem mX6_owedOf (l : Launch) (G : va_G) (cy : Nat → ClassId) (g : Nat) (a : Nat → Nat) (z : bw_A1) (rows : bw_A1) (asd : bw_A1) (sm : Int32) (buf : bw_A1) (bm : Int32) (th : Int32) (od : bw_A1) (om : Int32) (ow : Int32) (ca : Int32) (bo : Int32) (la : Int32) (pl : Int32) (to : Int32) (rd : bw_A1) (hh : Int64) (p1 : Int32) (p2 : Int32) (r : Int32) (h : fX6_owedOf z p1 p2 = some r) : bw_M l yX6_owedOf cX6_owedOf 4 (some .int) 2 43 G cy g [.ref (a 0), .int p1, .int p2] (bw_mW cy a z rows asd sm buf bm th od om ow ca bo la pl to rd hh) (some (.int r)) (bw_mW cy a z rows asd sm buf bm th od om ow ca bo la pl to rd hh) := by
  refine bw_ofW (by decide +kernel) RX6 rfl (Nat.le_of_ble_eq_true rfl) ?_
  intro p e s m below meth c ls S hr hlocks hK hZ hI hl
  have hx := S.1
  have hb := S.2.1
  have hown := S.2.2.2.1
  have hts := S.2.2.2.2
  generalize va_A _ s.heap.size = A at hI hZ ⊢
  generalize hQ : MQ below _ _ s 0 0 A = Q
  have hl : lv_has ls 4 [(0, .ref (a 0)), (1, .int p1), (2, .int p2)] := hl
  unfold fX6_owedOf at h
  refine lv_aload_n hx hb dX6_owedOf_0 rfl (lv_at hl 0 rfl) ?_
  refine lv_iload_n hx hb dX6_owedOf_1 rfl (lv_at hl 2 rfl) ?_
  refine lv_iload_n hx hb dX6_owedOf_2 rfl (lv_at hl 1 rfl) ?_
  obtain ⟨r3, hc, h⟩ := bw_b1_e h
  refine bw_callV S hK hZ hI (mX6_placeOf l G cy g a z rows asd sm buf bm th od om ow ca bo la pl to rd hh p2 p1 r3 hc) Y_X6_placeOf V_X6_placeOf l_X6_53 ⟨(Nat.le_of_ble_eq_true rfl), (Nat.le_of_ble_eq_true rfl)⟩ (q0 := 0) rfl rfl rfl (ws' := (bw_mW cy a z rows asd sm buf bm th od om ow ca bo la pl to rd hh)) (bw_pS _) (bw_pS' _) rfl rfl hl.1 (rest := []) (st1 := [.int r3]) rfl rfl (Nat.le_of_ble_eq_true rfl) dX6_owedOf_3 ⟨(Nat.le_of_ble_eq_true rfl), (Nat.le_of_ble_eq_true rfl)⟩ (fun H locs hI => ?_)
  refine lv_istore_n (lv' := [(3, .int r3), (0, .ref (a 0)), (1, .int p1), (2, .int p2)]) hx hb dX6_owedOf_6 rfl hl (by decide) rfl (fun ls hl => ?_)
  refine lv_iload_n hx hb dX6_owedOf_7 rfl (lv_at hl 0 rfl) ?_
  refine lv_iconst (v := (-1)) hx hb dX6_owedOf_8 rfl ?_
  refine lv_icmp_ne (tgt := 16) hx hb dX6_owedOf_9 (by decide) (fun c_9 => ?_) (fun c_9 => ?_)
  · rw [if_neg c_9] at h
    refine lv_aload_n hx hb dX6_owedOf_16 rfl (lv_at hl 1 rfl) ?_
    refine bw_get S hK hI 0 0 rfl rfl (by decide) i_X6 f_X6_7 rfl dX6_owedOf_17 ?_
    refine lv_iload_n hx hb dX6_owedOf_20 rfl (lv_at hl 0 rfl) ?_
    obtain ⟨r21, hc, h⟩ := bw_b1_e h
    refine bw_callP S hK hZ hI (mX6_loanAt l G cy g r3 r21 hc) Y_X6_loanAt V_X6_loanAt l_X6_50 ⟨(Nat.le_of_ble_eq_true rfl), (Nat.le_of_ble_eq_true rfl)⟩ (rest := [.ref (a 1)]) (st1 := [.int r21, .ref (a 1)]) rfl hl.1 rfl rfl (Nat.le_of_ble_eq_true rfl) dX6_owedOf_21 ⟨(Nat.le_of_ble_eq_true rfl), (Nat.le_of_ble_eq_true rfl)⟩ (fun H locs hI => ?_)
    refine lv_iconst (v := 2) hx hb dX6_owedOf_24 rfl ?_
    refine lv_iadd hx hb dX6_owedOf_25 ?_
    obtain ⟨v26, hv, h⟩ := bw_b1_e h
    refine bw_iald hx hb hK hI 1 hv rfl dX6_owedOf_26 ?_
    exact bw_iretP S hr hlocks h hI rfl dX6_owedOf_27 hQ
  rw [if_pos c_9] at h
  refine lv_iconst (v := 0) hx hb dX6_owedOf_12 rfl ?_
  refine lv_goto (tgt := 27) hx hb dX6_owedOf_13 (by decide) ?_
  exact bw_iretP S hr hlocks h hI rfl dX6_owedOf_27 hQ
set_option maxHeartbeats 4000000 in
set_option maxRecDepth 100000 in
theorem mX6_dropLoan (l : Launch) (G : va_G) (cy : Nat → ClassId) (g : Nat) (a : Nat → Nat) (z : bw_A1) (rows : bw_A1) (asd : bw_A1) (sm : Int32) (buf : bw_A1) (bm : Int32) (th : Int32) (od : bw_A1) (om : Int32) (ow : Int32) (ca : Int32) (bo : Int32) (la : Int32) (pl : Int32) (to : Int32) (rd : bw_A1) (hh : Int64) (p1 : Int32) (z' : bw_A1) (h : fX6_dropLoan z p1 = some z') : bw_M l yX6_dropLoan cX6_dropLoan 3 none 1 20 G cy g [.ref (a 0), .int p1] (bw_mW cy a z rows asd sm buf bm th od om ow ca bo la pl to rd hh) none (bw_mW cy a z' rows asd sm buf bm th od om ow ca bo la pl to rd hh) := by
  refine bw_ofW (by decide +kernel) RX6 rfl (Nat.le_of_ble_eq_true rfl) ?_
  intro p e s m below meth c ls S hr hlocks hK hZ hI hl
  have hx := S.1
  have hb := S.2.1
  have hown := S.2.2.2.1
  have hts := S.2.2.2.2
  generalize va_A _ s.heap.size = A at hI hZ ⊢
  generalize hQ : MQ below _ _ s 0 0 A = Q
  have hl : lv_has ls 3 [(0, .ref (a 0)), (1, .int p1)] := hl
  have l15 : ∀  (n : Nat) (H : Heap) (locs : List Loc) (ls : Array Slot) (z : bw_A1) (x2 : Int32), lX6_dropLoan_15  n z x2 = some z' → bw_I G A s.heap (bw_mW cy a z rows asd sm buf bm th od om ow ca bo la pl to rd hh) H locs → lv_has ls 3 [(0, .ref (a 0)), (2, .int x2)] → W p l e (bw_rm 1 20) s m [.ref (a 0), .int p1].toArray below meth c H locs 0 0 Q (F0 m 15 ls []) := by
    intro  n
    induction n with
    | zero => intro H locs ls z x2 h; exact bw_none h
    | succ n ih =>
      intro H locs ls z x2 h hI hl
      have h : bX6_dropLoan_15  (lX6_dropLoan_15  n)  z x2 = some z' := h
      unfold bX6_dropLoan_15 at h
      refine lv_iload_n hx hb dX6_dropLoan_15 rfl (lv_at hl 1 rfl) ?_
      refine lv_aload_n hx hb dX6_dropLoan_16 rfl (lv_at hl 0 rfl) ?_
      refine bw_get S hK hI 0 0 rfl rfl (by decide) i_X6 f_X6_7 rfl dX6_dropLoan_17 ?_
      refine lv_iconst (v := 1) hx hb dX6_dropLoan_20 rfl ?_
      obtain ⟨v21, hv, h⟩ := bw_b1_e h
      refine bw_iald hx hb hK hI 1 hv rfl dX6_dropLoan_21 ?_
      obtain ⟨r22, hc, h⟩ := bw_b1_e h
      refine bw_callP S hK hZ hI (mX6_loanAt l G cy g v21 r22 hc) Y_X6_loanAt V_X6_loanAt l_X6_50 ⟨(Nat.le_of_ble_eq_true rfl), (Nat.le_of_ble_eq_true rfl)⟩ (rest := [.int x2]) (st1 := [.int r22, .int x2]) rfl hl.1 rfl rfl (Nat.le_of_ble_eq_true rfl) dX6_dropLoan_22 ⟨(Nat.le_of_ble_eq_true rfl), (Nat.le_of_ble_eq_true rfl)⟩ (fun H locs hI => ?_)
      refine lv_icmp_ge (tgt := 48) hx hb dX6_dropLoan_25 (by decide) (fun c_25 => ?_) (fun c_25 => ?_)
      · rw [if_pos c_25] at h
        exact bw_vret (d := z) (rr := z') S hr hlocks h (fun q : bw_A1 => (bw_mW cy a q rows asd sm buf bm th od om ow ca bo la pl to rd hh)) hI dX6_dropLoan_48 hQ
      rw [if_neg c_25] at h
      refine lv_aload_n hx hb dX6_dropLoan_28 rfl (lv_at hl 0 rfl) ?_
      refine bw_get S hK hI 0 0 rfl rfl (by decide) i_X6 f_X6_7 rfl dX6_dropLoan_29 ?_
      refine lv_iload_n hx hb dX6_dropLoan_32 rfl (lv_at hl 1 rfl) ?_
      refine lv_aload_n hx hb dX6_dropLoan_33 rfl (lv_at hl 0 rfl) ?_
      refine bw_get S hK hI 0 0 rfl rfl (by decide) i_X6 f_X6_7 rfl dX6_dropLoan_34 ?_
      refine lv_iload_n hx hb dX6_dropLoan_37 rfl (lv_at hl 1 rfl) ?_
      refine lv_iconst (v := 3) hx hb dX6_dropLoan_38 rfl ?_
      refine lv_iadd hx hb dX6_dropLoan_39 ?_
      obtain ⟨v40, hv, h⟩ := bw_b1_e h
      refine bw_iald hx hb hK hI 1 hv rfl dX6_dropLoan_40 ?_
      obtain ⟨z_41, hv, h⟩ := bw_b1_e h
      refine bw_iast hx hb hK hI 1 (ws' := (bw_mW cy a z_41 rows asd sm buf bm th od om ow ca bo la pl to rd hh)) hv rfl rfl dX6_dropLoan_41 (fun H locs hI => ?_)
      obtain ⟨x2_42, e_42⟩ : ∃ y : Int32, y = x2 + 1 := ⟨_, rfl⟩
      have h := bw_let_e h e_42
      refine lv_iinc (v := x2_42) (lv' := [(2, .int x2_42), (0, .ref (a 0))]) hx hb dX6_dropLoan_42 hl (k := 1) rfl (by rw [e_42]; rfl) (by decide) rfl (fun ls hl => ?_)
      clear e_42
      refine lv_goto (tgt := 15) hx hb dX6_dropLoan_45 (by decide) ?_
      exact ih _ _ _ z_41 x2_42 h hI (lv_sub hl [1,0] rfl)
  unfold fX6_dropLoan at h
  refine lv_aload_n hx hb dX6_dropLoan_0 rfl (lv_at hl 0 rfl) ?_
  refine bw_get S hK hI 0 0 rfl rfl (by decide) i_X6 f_X6_7 rfl dX6_dropLoan_1 ?_
  refine lv_iconst (v := 1) hx hb dX6_dropLoan_4 rfl ?_
  refine lv_dup2_11 hx hb dX6_dropLoan_5 rfl rfl ?_
  obtain ⟨v6, hv, h⟩ := bw_b1_e h
  refine bw_iald hx hb hK hI 1 hv rfl dX6_dropLoan_6 ?_
  refine lv_iconst (v := 1) hx hb dX6_dropLoan_7 rfl ?_
  refine lv_isub hx hb dX6_dropLoan_8 ?_
  obtain ⟨z_9, hv, h⟩ := bw_b1_e h
  refine bw_iast hx hb hK hI 1 (ws' := (bw_mW cy a z_9 rows asd sm buf bm th od om ow ca bo la pl to rd hh)) hv rfl rfl dX6_dropLoan_9 (fun H locs hI => ?_)
  refine lv_iload_n hx hb dX6_dropLoan_10 rfl (lv_at hl 1 rfl) ?_
  obtain ⟨r11, hc, h⟩ := bw_b1_e h
  refine bw_callP S hK hZ hI (mX6_loanAt l G cy g p1 r11 hc) Y_X6_loanAt V_X6_loanAt l_X6_50 ⟨(Nat.le_of_ble_eq_true rfl), (Nat.le_of_ble_eq_true rfl)⟩ (rest := []) (st1 := [.int r11]) rfl hl.1 rfl rfl (Nat.le_of_ble_eq_true rfl) dX6_dropLoan_11 ⟨(Nat.le_of_ble_eq_true rfl), (Nat.le_of_ble_eq_true rfl)⟩ (fun H locs hI => ?_)
  refine lv_istore_n (lv' := [(2, .int r11), (0, .ref (a 0)), (1, .int p1)]) hx hb dX6_dropLoan_14 rfl hl (by decide) rfl (fun ls hl => ?_)
  exact l15  bw_fu _ _ _ z_9 r11 h hI (lv_sub hl [1,0] rfl)
set_option maxHeartbeats 4000000 in
set_option maxRecDepth 100000 in
theorem mX6_addLoan (l : Launch) (G : va_G) (cy : Nat → ClassId) (g : Nat) (a : Nat → Nat) (z : bw_A1) (rows : bw_A1) (asd : bw_A1) (sm : Int32) (buf : bw_A1) (bm : Int32) (th : Int32) (od : bw_A1) (om : Int32) (ow : Int32) (ca : Int32) (bo : Int32) (la : Int32) (pl : Int32) (to : Int32) (rd : bw_A1) (hh : Int64) (p1 : Int32) (p2 : Int32) (p3 : Int32) (z' : bw_A1) (h : fX6_addLoan z p1 p2 p3 = some z') : bw_M l yX6_addLoan cX6_addLoan 5 none 2 43 G cy g [.ref (a 0), .int p1, .int p2, .int p3] (bw_mW cy a z rows asd sm buf bm th od om ow ca bo la pl to rd hh) none (bw_mW cy a z' rows asd sm buf bm th od om ow ca bo la pl to rd hh) := by
  refine bw_ofW (by decide +kernel) RX6 rfl (Nat.le_of_ble_eq_true rfl) ?_
  intro p e s m below meth c ls S hr hlocks hK hZ hI hl
  have hx := S.1
  have hb := S.2.1
  have hown := S.2.2.2.1
  have hts := S.2.2.2.2
  generalize va_A _ s.heap.size = A at hI hZ ⊢
  generalize hQ : MQ below _ _ s 0 0 A = Q
  have hl : lv_has ls 5 [(0, .ref (a 0)), (1, .int p1), (2, .int p2), (3, .int p3)] := hl
  have j69 : ∀ (z : bw_A1) (x3 : Int32) (x4 : Int32) (H : Heap) (locs : List Loc) (ls : Array Slot), jX6_addLoan_69 z x3 x4 = some z' → bw_I G A s.heap (bw_mW cy a z rows asd sm buf bm th od om ow ca bo la pl to rd hh) H locs → lv_has ls 5 [(0, .ref (a 0)), (3, .int x3), (4, .int x4)] → W p l e (bw_rm 2 43) s m [.ref (a 0), .int p1, .int p2, .int p3].toArray below meth c H locs 0 0 Q (F0 m 69 ls []) := by
    intro z x3 x4 H locs ls h hI hl
    unfold jX6_addLoan_69 at h
    refine lv_aload_n hx hb dX6_addLoan_69 rfl (lv_at hl 0 rfl) ?_
    refine bw_get S hK hI 0 0 rfl rfl (by decide) i_X6 f_X6_7 rfl dX6_addLoan_70 ?_
    refine lv_iload hx hb dX6_addLoan_73 (lv_at hl 2 rfl) ?_
    obtain ⟨r75, hc, h⟩ := bw_b1_e h
    refine bw_callP S hK hZ hI (mX6_loanAt l G cy g x4 r75 hc) Y_X6_loanAt V_X6_loanAt l_X6_50 ⟨(Nat.le_of_ble_eq_true rfl), (Nat.le_of_ble_eq_true rfl)⟩ (rest := [.ref (a 1)]) (st1 := [.int r75, .ref (a 1)]) rfl hl.1 rfl rfl (Nat.le_of_ble_eq_true rfl) dX6_addLoan_75 ⟨(Nat.le_of_ble_eq_true rfl), (Nat.le_of_ble_eq_true rfl)⟩ (fun H locs hI => ?_)
    refine lv_iconst (v := 2) hx hb dX6_addLoan_78 rfl ?_
    refine lv_iadd hx hb dX6_addLoan_79 ?_
    refine lv_dup2_11 hx hb dX6_addLoan_80 rfl rfl ?_
    obtain ⟨v81, hv, h⟩ := bw_b1_e h
    refine bw_iald hx hb hK hI 1 hv rfl dX6_addLoan_81 ?_
    refine lv_iload_n hx hb dX6_addLoan_82 rfl (lv_at hl 1 rfl) ?_
    refine lv_iadd hx hb dX6_addLoan_83 ?_
    obtain ⟨z_84, hv, h⟩ := bw_b1_e h
    refine bw_iast hx hb hK hI 1 (ws' := (bw_mW cy a z_84 rows asd sm buf bm th od om ow ca bo la pl to rd hh)) hv rfl rfl dX6_addLoan_84 (fun H locs hI => ?_)
    exact bw_vret (d := z_84) (rr := z') S hr hlocks h (fun q : bw_A1 => (bw_mW cy a q rows asd sm buf bm th od om ow ca bo la pl to rd hh)) hI dX6_addLoan_85 hQ
  unfold fX6_addLoan at h
  refine lv_aload_n hx hb dX6_addLoan_0 rfl (lv_at hl 0 rfl) ?_
  refine lv_iload_n hx hb dX6_addLoan_1 rfl (lv_at hl 1 rfl) ?_
  refine lv_iload_n hx hb dX6_addLoan_2 rfl (lv_at hl 2 rfl) ?_
  obtain ⟨r3, hc, h⟩ := bw_b1_e h
  refine bw_callV S hK hZ hI (mX6_placeOf l G cy g a z rows asd sm buf bm th od om ow ca bo la pl to rd hh p1 p2 r3 hc) Y_X6_placeOf V_X6_placeOf l_X6_53 ⟨(Nat.le_of_ble_eq_true rfl), (Nat.le_of_ble_eq_true rfl)⟩ (q0 := 0) rfl rfl rfl (ws' := (bw_mW cy a z rows asd sm buf bm th od om ow ca bo la pl to rd hh)) (bw_pS _) (bw_pS' _) rfl rfl hl.1 (rest := []) (st1 := [.int r3]) rfl rfl (Nat.le_of_ble_eq_true rfl) dX6_addLoan_3 ⟨(Nat.le_of_ble_eq_true rfl), (Nat.le_of_ble_eq_true rfl)⟩ (fun H locs hI => ?_)
  refine lv_istore (lv' := [(4, .int r3), (0, .ref (a 0)), (1, .int p1), (2, .int p2), (3, .int p3)]) hx hb dX6_addLoan_6 hl (by decide) rfl (fun ls hl => ?_)
  refine lv_iload hx hb dX6_addLoan_8 (lv_at hl 0 rfl) ?_
  refine lv_iconst (v := (-1)) hx hb dX6_addLoan_10 rfl ?_
  refine lv_icmp_ne (tgt := 69) hx hb dX6_addLoan_11 (by decide) (fun c_11 => ?_) (fun c_11 => ?_)
  · rw [if_neg c_11] at h
    exact j69 z p3 r3 _ _ _ h hI (lv_sub hl [1,4,0] rfl)
  rw [if_pos c_11] at h
  refine lv_aload_n hx hb dX6_addLoan_14 rfl (lv_at hl 1 rfl) ?_
  refine bw_get S hK hI 0 0 rfl rfl (by decide) i_X6 f_X6_7 rfl dX6_addLoan_15 ?_
  refine lv_iconst (v := 1) hx hb dX6_addLoan_18 rfl ?_
  obtain ⟨v19, hv, h⟩ := bw_b1_e h
  refine bw_iald hx hb hK hI 1 hv rfl dX6_addLoan_19 ?_
  refine lv_istore (lv' := [(4, .int v19), (0, .ref (a 0)), (1, .int p1), (2, .int p2), (3, .int p3)]) hx hb dX6_addLoan_20 hl (by decide) rfl (fun ls hl => ?_)
  refine lv_aload_n hx hb dX6_addLoan_22 rfl (lv_at hl 1 rfl) ?_
  refine bw_get S hK hI 0 0 rfl rfl (by decide) i_X6 f_X6_7 rfl dX6_addLoan_23 ?_
  refine lv_iload hx hb dX6_addLoan_26 (lv_at hl 0 rfl) ?_
  obtain ⟨r28, hc, h⟩ := bw_b1_e h
  refine bw_callP S hK hZ hI (mX6_loanAt l G cy g v19 r28 hc) Y_X6_loanAt V_X6_loanAt l_X6_50 ⟨(Nat.le_of_ble_eq_true rfl), (Nat.le_of_ble_eq_true rfl)⟩ (rest := [.ref (a 1)]) (st1 := [.int r28, .ref (a 1)]) rfl hl.1 rfl rfl (Nat.le_of_ble_eq_true rfl) dX6_addLoan_28 ⟨(Nat.le_of_ble_eq_true rfl), (Nat.le_of_ble_eq_true rfl)⟩ (fun H locs hI => ?_)
  refine lv_iload_n hx hb dX6_addLoan_31 rfl (lv_at hl 2 rfl) ?_
  obtain ⟨z_32, hv, h⟩ := bw_b1_e h
  refine bw_iast hx hb hK hI 1 (ws' := (bw_mW cy a z_32 rows asd sm buf bm th od om ow ca bo la pl to rd hh)) hv rfl rfl dX6_addLoan_32 (fun H locs hI => ?_)
  refine lv_aload_n hx hb dX6_addLoan_33 rfl (lv_at hl 1 rfl) ?_
  refine bw_get S hK hI 0 0 rfl rfl (by decide) i_X6 f_X6_7 rfl dX6_addLoan_34 ?_
  refine lv_iload hx hb dX6_addLoan_37 (lv_at hl 0 rfl) ?_
  obtain ⟨r39, hc, h⟩ := bw_b1_e h
  refine bw_callP S hK hZ hI (mX6_loanAt l G cy g v19 r39 hc) Y_X6_loanAt V_X6_loanAt l_X6_50 ⟨(Nat.le_of_ble_eq_true rfl), (Nat.le_of_ble_eq_true rfl)⟩ (rest := [.ref (a 1)]) (st1 := [.int r39, .ref (a 1)]) rfl hl.1 rfl rfl (Nat.le_of_ble_eq_true rfl) dX6_addLoan_39 ⟨(Nat.le_of_ble_eq_true rfl), (Nat.le_of_ble_eq_true rfl)⟩ (fun H locs hI => ?_)
  refine lv_iconst (v := 1) hx hb dX6_addLoan_42 rfl ?_
  refine lv_iadd hx hb dX6_addLoan_43 ?_
  refine lv_iload_n hx hb dX6_addLoan_44 rfl (lv_at hl 3 rfl) ?_
  obtain ⟨z_45, hv, h⟩ := bw_b1_e h
  refine bw_iast hx hb hK hI 1 (ws' := (bw_mW cy a z_45 rows asd sm buf bm th od om ow ca bo la pl to rd hh)) hv rfl rfl dX6_addLoan_45 (fun H locs hI => ?_)
  refine lv_aload_n hx hb dX6_addLoan_46 rfl (lv_at hl 1 rfl) ?_
  refine bw_get S hK hI 0 0 rfl rfl (by decide) i_X6 f_X6_7 rfl dX6_addLoan_47 ?_
  refine lv_iload hx hb dX6_addLoan_50 (lv_at hl 0 rfl) ?_
  obtain ⟨r52, hc, h⟩ := bw_b1_e h
  refine bw_callP S hK hZ hI (mX6_loanAt l G cy g v19 r52 hc) Y_X6_loanAt V_X6_loanAt l_X6_50 ⟨(Nat.le_of_ble_eq_true rfl), (Nat.le_of_ble_eq_true rfl)⟩ (rest := [.ref (a 1)]) (st1 := [.int r52, .ref (a 1)]) rfl hl.1 rfl rfl (Nat.le_of_ble_eq_true rfl) dX6_addLoan_52 ⟨(Nat.le_of_ble_eq_true rfl), (Nat.le_of_ble_eq_true rfl)⟩ (fun H locs hI => ?_)
  refine lv_iconst (v := 2) hx hb dX6_addLoan_55 rfl ?_
  refine lv_iadd hx hb dX6_addLoan_56 ?_
  refine lv_iconst (v := 0) hx hb dX6_addLoan_57 rfl ?_
  obtain ⟨z_58, hv, h⟩ := bw_b1_e h
  refine bw_iast hx hb hK hI 1 (ws' := (bw_mW cy a z_58 rows asd sm buf bm th od om ow ca bo la pl to rd hh)) hv rfl rfl dX6_addLoan_58 (fun H locs hI => ?_)
  refine lv_aload_n hx hb dX6_addLoan_59 rfl (lv_at hl 1 rfl) ?_
  refine bw_get S hK hI 0 0 rfl rfl (by decide) i_X6 f_X6_7 rfl dX6_addLoan_60 ?_
  refine lv_iconst (v := 1) hx hb dX6_addLoan_63 rfl ?_
  refine lv_dup2_11 hx hb dX6_addLoan_64 rfl rfl ?_
  obtain ⟨v65, hv, h⟩ := bw_b1_e h
  refine bw_iald hx hb hK hI 1 hv rfl dX6_addLoan_65 ?_
  refine lv_iconst (v := 1) hx hb dX6_addLoan_66 rfl ?_
  refine lv_iadd hx hb dX6_addLoan_67 ?_
  obtain ⟨z_68, hv, h⟩ := bw_b1_e h
  refine bw_iast hx hb hK hI 1 (ws' := (bw_mW cy a z_68 rows asd sm buf bm th od om ow ca bo la pl to rd hh)) hv rfl rfl dX6_addLoan_68 (fun H locs hI => ?_)
  exact j69 z_68 p3 v19 _ _ _ h hI (lv_sub hl [1,4,0] rfl)
set_option maxHeartbeats 4000000 in
set_option maxRecDepth 100000 in
theorem mX6_cutLoan (l : Launch) (G : va_G) (cy : Nat → ClassId) (g : Nat) (a : Nat → Nat) (z : bw_A1) (rows : bw_A1) (asd : bw_A1) (sm : Int32) (buf : bw_A1) (bm : Int32) (th : Int32) (od : bw_A1) (om : Int32) (ow : Int32) (ca : Int32) (bo : Int32) (la : Int32) (pl : Int32) (to : Int32) (rd : bw_A1) (hh : Int64) (p1 : Int32) (p2 : Int32) (z' : bw_A1) (h : fX6_cutLoan z p1 p2 = some z') : bw_M l yX6_cutLoan cX6_cutLoan 3 none 2 42 G cy g [.ref (a 0), .int p1, .int p2] (bw_mW cy a z rows asd sm buf bm th od om ow ca bo la pl to rd hh) none (bw_mW cy a z' rows asd sm buf bm th od om ow ca bo la pl to rd hh) := by
  refine bw_ofW (by decide +kernel) RX6 rfl (Nat.le_of_ble_eq_true rfl) ?_
  intro p e s m below meth c ls S hr hlocks hK hZ hI hl
  have hx := S.1
  have hb := S.2.1
  have hown := S.2.2.2.1
  have hts := S.2.2.2.2
  generalize va_A _ s.heap.size = A at hI hZ ⊢
  generalize hQ : MQ below _ _ s 0 0 A = Q
  have hl : lv_has ls 3 [(0, .ref (a 0)), (1, .int p1), (2, .int p2)] := hl
  unfold fX6_cutLoan at h
  refine lv_aload_n hx hb dX6_cutLoan_0 rfl (lv_at hl 0 rfl) ?_
  refine bw_get S hK hI 0 0 rfl rfl (by decide) i_X6 f_X6_7 rfl dX6_cutLoan_1 ?_
  refine lv_iload_n hx hb dX6_cutLoan_4 rfl (lv_at hl 1 rfl) ?_
  obtain ⟨r5, hc, h⟩ := bw_b1_e h
  refine bw_callP S hK hZ hI (mX6_loanAt l G cy g p1 r5 hc) Y_X6_loanAt V_X6_loanAt l_X6_50 ⟨(Nat.le_of_ble_eq_true rfl), (Nat.le_of_ble_eq_true rfl)⟩ (rest := [.ref (a 1)]) (st1 := [.int r5, .ref (a 1)]) rfl hl.1 rfl rfl (Nat.le_of_ble_eq_true rfl) dX6_cutLoan_5 ⟨(Nat.le_of_ble_eq_true rfl), (Nat.le_of_ble_eq_true rfl)⟩ (fun H locs hI => ?_)
  refine lv_iconst (v := 2) hx hb dX6_cutLoan_8 rfl ?_
  refine lv_iadd hx hb dX6_cutLoan_9 ?_
  refine lv_dup2_11 hx hb dX6_cutLoan_10 rfl rfl ?_
  obtain ⟨v11, hv, h⟩ := bw_b1_e h
  refine bw_iald hx hb hK hI 1 hv rfl dX6_cutLoan_11 ?_
  refine lv_iload_n hx hb dX6_cutLoan_12 rfl (lv_at hl 2 rfl) ?_
  refine lv_isub hx hb dX6_cutLoan_13 ?_
  obtain ⟨z_14, hv, h⟩ := bw_b1_e h
  refine bw_iast hx hb hK hI 1 (ws' := (bw_mW cy a z_14 rows asd sm buf bm th od om ow ca bo la pl to rd hh)) hv rfl rfl dX6_cutLoan_14 (fun H locs hI => ?_)
  refine lv_aload_n hx hb dX6_cutLoan_15 rfl (lv_at hl 0 rfl) ?_
  refine bw_get S hK hI 0 0 rfl rfl (by decide) i_X6 f_X6_7 rfl dX6_cutLoan_16 ?_
  refine lv_iload_n hx hb dX6_cutLoan_19 rfl (lv_at hl 1 rfl) ?_
  obtain ⟨r20, hc, h⟩ := bw_b1_e h
  refine bw_callP S hK hZ hI (mX6_loanAt l G cy g p1 r20 hc) Y_X6_loanAt V_X6_loanAt l_X6_50 ⟨(Nat.le_of_ble_eq_true rfl), (Nat.le_of_ble_eq_true rfl)⟩ (rest := [.ref (a 1)]) (st1 := [.int r20, .ref (a 1)]) rfl hl.1 rfl rfl (Nat.le_of_ble_eq_true rfl) dX6_cutLoan_20 ⟨(Nat.le_of_ble_eq_true rfl), (Nat.le_of_ble_eq_true rfl)⟩ (fun H locs hI => ?_)
  refine lv_iconst (v := 2) hx hb dX6_cutLoan_23 rfl ?_
  refine lv_iadd hx hb dX6_cutLoan_24 ?_
  obtain ⟨v25, hv, h⟩ := bw_b1_e h
  refine bw_iald hx hb hK hI 1 hv rfl dX6_cutLoan_25 ?_
  refine lv_if_ne (tgt := 34) hx hb dX6_cutLoan_26 (by decide) (fun c_26 => ?_) (fun c_26 => ?_)
  · rw [if_neg c_26] at h
    exact bw_vret (d := z_14) (rr := z') S hr hlocks h (fun q : bw_A1 => (bw_mW cy a q rows asd sm buf bm th od om ow ca bo la pl to rd hh)) hI dX6_cutLoan_34 hQ
  rw [if_pos c_26] at h
  refine lv_aload_n hx hb dX6_cutLoan_29 rfl (lv_at hl 0 rfl) ?_
  refine lv_iload_n hx hb dX6_cutLoan_30 rfl (lv_at hl 1 rfl) ?_
  obtain ⟨z_31, hc, h⟩ := bw_b1_e h
  refine bw_callV S hK hZ hI (mX6_dropLoan l G cy g a z_14 rows asd sm buf bm th od om ow ca bo la pl to rd hh p1 z_31 hc) Y_X6_dropLoan V_X6_dropLoan l_X6_57 ⟨(Nat.le_of_ble_eq_true rfl), (Nat.le_of_ble_eq_true rfl)⟩ (q0 := 0) rfl rfl rfl (ws' := (bw_mW cy a z_31 rows asd sm buf bm th od om ow ca bo la pl to rd hh)) (bw_pS _) (bw_pS' _) rfl rfl hl.1 (rest := []) (st1 := []) rfl rfl (Nat.le_of_ble_eq_true rfl) dX6_cutLoan_31 ⟨(Nat.le_of_ble_eq_true rfl), (Nat.le_of_ble_eq_true rfl)⟩ (fun H locs hI => ?_)
  exact bw_vret (d := z_31) (rr := z') S hr hlocks h (fun q : bw_A1 => (bw_mW cy a q rows asd sm buf bm th od om ow ca bo la pl to rd hh)) hI dX6_cutLoan_34 hQ
