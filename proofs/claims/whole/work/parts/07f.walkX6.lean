set_option maxHeartbeats 4000000 in
set_option maxRecDepth 100000 in
theorem mX6_thrown (l : Launch) (G : va_G) (cy : Nat → ClassId) (g : Nat) (a : Nat → Nat) (z : bw_A1) (rows : bw_A1) (asd : bw_A1) (sm : Int32) (buf : bw_A1) (bm : Int32) (th : Int32) (od : bw_A1) (om : Int32) (ow : Int32) (ca : Int32) (bo : Int32) (la : Int32) (pl : Int32) (to : Int32) (rd : bw_A1) (hh : Int64) (r : Int32) (h : fX6_thrown th = some r) : bw_M l yX6_thrown cX6_thrown 1 (some .int) 0 0 G cy g [.ref (a 0)] (bw_mW cy a z rows asd sm buf bm th od om ow ca bo la pl to rd hh) (some (.int r)) (bw_mW cy a z rows asd sm buf bm th od om ow ca bo la pl to rd hh) := by
  refine bw_ofW (by decide +kernel) RX6 rfl (Nat.le_of_ble_eq_true rfl) ?_
  intro p e s m below meth c ls S hr hlocks hK hZ hI hl
  have hx := S.1
  have hb := S.2.1
  have hown := S.2.2.2.1
  have hts := S.2.2.2.2
  generalize va_A _ s.heap.size = A at hI hZ ⊢
  generalize hQ : MQ below _ _ s 0 0 A = Q
  have hl : lv_has ls 1 [(0, .ref (a 0))] := hl
  unfold fX6_thrown at h
  refine lv_aload_n hx hb dX6_thrown_0 rfl (lv_at hl 0 rfl) ?_
  refine bw_get S hK hI 0 6 rfl rfl (by decide) i_X6 f_X6_28 rfl dX6_thrown_1 ?_
  subst hQ
  exact bw_iretP S hr hlocks h hI rfl dX6_thrown_4
set_option maxHeartbeats 4000000 in
set_option maxRecDepth 100000 in
theorem mX6_fails (l : Launch) (G : va_G) (cy : Nat → ClassId) (g : Nat) (a : Nat → Nat) (z : bw_A1) (rows : bw_A1) (asd : bw_A1) (sm : Int32) (buf : bw_A1) (bm : Int32) (th : Int32) (od : bw_A1) (om : Int32) (ow : Int32) (ca : Int32) (bo : Int32) (la : Int32) (pl : Int32) (to : Int32) (rd : bw_A1) (hh : Int64) (p1 : Int32) (r : Int32) (th' : Int32) (h : fX6_fails th p1 = some (r, th')) : bw_M l yX6_fails cX6_fails 2 (some .int) 0 0 G cy g [.ref (a 0), .int p1] (bw_mW cy a z rows asd sm buf bm th od om ow ca bo la pl to rd hh) (some (.int r)) (bw_mW cy a z rows asd sm buf bm th' od om ow ca bo la pl to rd hh) := by
  refine bw_ofW (by decide +kernel) RX6 rfl (Nat.le_of_ble_eq_true rfl) ?_
  intro p e s m below meth c ls S hr hlocks hK hZ hI hl
  have hx := S.1
  have hb := S.2.1
  have hown := S.2.2.2.1
  have hts := S.2.2.2.2
  generalize va_A _ s.heap.size = A at hI hZ ⊢
  generalize hQ : MQ below _ _ s 0 0 A = Q
  have hl : lv_has ls 2 [(0, .ref (a 0)), (1, .int p1)] := hl
  unfold fX6_fails at h
  refine lv_aload_n hx hb dX6_fails_0 rfl (lv_at hl 0 rfl) ?_
  refine lv_iload_n hx hb dX6_fails_1 rfl (lv_at hl 1 rfl) ?_
  refine bw_put S hK hI 0 6 (ws' := (bw_mW cy a z rows asd sm buf bm p1 od om ow ca bo la pl to rd hh)) tyX6 tyX6_ok nmX6 rfl rfl (by decide) i_X6 f_X6_28 rfl rfl rfl rfl (Nat.le_of_ble_eq_true rfl) rfl dX6_fails_2 (fun H locs hI => ?_)
  refine lv_iconst (v := 0) hx hb dX6_fails_5 rfl ?_
  subst hQ
  exact bw_iret (rr := (r, th')) S hr hlocks h (fun q : Int32 => (bw_mW cy a z rows asd sm buf bm q od om ow ca bo la pl to rd hh)) hI rfl dX6_fails_6
set_option maxHeartbeats 4000000 in
set_option maxRecDepth 100000 in
theorem mX6_in (l : Launch) (G : va_G) (cy : Nat → ClassId) (g : Nat) (p0 : Int32) (p1 : Int32) (p2 : Int32) (r : Int32) (h : fX6_in p0 p1 p2 = some r) : bw_M l yX6_in cX6_in 3 (some .boolean) 0 0 G cy g [.int p0, .int p1, .int p2] [] (some (.int r)) [] := by
  refine bw_ofW (by decide +kernel) RX6 rfl (Nat.le_of_ble_eq_true rfl) ?_
  intro p e s m below meth c ls S hr hlocks hK hZ hI hl
  have hx := S.1
  have hb := S.2.1
  have hown := S.2.2.2.1
  have hts := S.2.2.2.2
  generalize va_A _ s.heap.size = A at hI hZ ⊢
  generalize hQ : MQ below _ _ s 0 0 A = Q
  have hl : lv_has ls 3 [(0, .int p0), (1, .int p1), (2, .int p2)] := hl
  have j14 : ∀  (H : Heap) (locs : List Loc) (ls : Array Slot), jX6_in_14  = some r → bw_I G A s.heap [] H locs → lv_has ls 3 [] → W p l e (bw_rm 0 0) s m [.int p0, .int p1, .int p2].toArray below meth c H locs 0 0 Q (F0 m 14 ls []) := by
    intro  H locs ls h hI hl
    unfold jX6_in_14 at h
    refine lv_iconst (v := 0) hx hb dX6_in_14 rfl ?_
    subst hQ
    exact bw_iretP S hr hlocks h hI rfl dX6_in_15
  unfold fX6_in at h
  refine lv_iload_n hx hb dX6_in_0 rfl (lv_at hl 0 rfl) ?_
  refine lv_iload_n hx hb dX6_in_1 rfl (lv_at hl 1 rfl) ?_
  refine lv_icmp_lt (tgt := 14) hx hb dX6_in_2 (by decide) (fun c_2 => ?_) (fun c_2 => ?_)
  · rw [if_pos c_2] at h
    exact j14  _ _ _ h hI (lv_sub hl [] rfl)
  rw [if_neg c_2] at h
  refine lv_iload_n hx hb dX6_in_5 rfl (lv_at hl 0 rfl) ?_
  refine lv_iload_n hx hb dX6_in_6 rfl (lv_at hl 2 rfl) ?_
  refine lv_icmp_gt (tgt := 14) hx hb dX6_in_7 (by decide) (fun c_7 => ?_) (fun c_7 => ?_)
  · rw [if_pos c_7] at h
    exact j14  _ _ _ h hI (lv_sub hl [] rfl)
  rw [if_neg c_7] at h
  refine lv_iconst (v := 1) hx hb dX6_in_10 rfl ?_
  refine lv_goto (tgt := 15) hx hb dX6_in_11 (by decide) ?_
  subst hQ
  exact bw_iretP S hr hlocks h hI rfl dX6_in_15
set_option maxHeartbeats 4000000 in
set_option maxRecDepth 100000 in
theorem mX6_least (l : Launch) (G : va_G) (cy : Nat → ClassId) (g : Nat) (p0 : Int32) (p1 : Int32) (r : Int32) (h : fX6_least p0 p1 = some r) : bw_M l yX6_least cX6_least 2 (some .int) 0 0 G cy g [.int p0, .int p1] [] (some (.int r)) [] := by
  refine bw_ofW (by decide +kernel) RX6 rfl (Nat.le_of_ble_eq_true rfl) ?_
  intro p e s m below meth c ls S hr hlocks hK hZ hI hl
  have hx := S.1
  have hb := S.2.1
  have hown := S.2.2.2.1
  have hts := S.2.2.2.2
  generalize va_A _ s.heap.size = A at hI hZ ⊢
  generalize hQ : MQ below _ _ s 0 0 A = Q
  have hl : lv_has ls 2 [(0, .int p0), (1, .int p1)] := hl
  unfold fX6_least at h
  refine lv_iload_n hx hb dX6_least_0 rfl (lv_at hl 0 rfl) ?_
  refine lv_iload_n hx hb dX6_least_1 rfl (lv_at hl 1 rfl) ?_
  refine lv_icmp_ge (tgt := 9) hx hb dX6_least_2 (by decide) (fun c_2 => ?_) (fun c_2 => ?_)
  · rw [if_pos c_2] at h
    refine lv_iload_n hx hb dX6_least_9 rfl (lv_at hl 1 rfl) ?_
    subst hQ
    exact bw_iretP S hr hlocks h hI rfl dX6_least_10
  rw [if_neg c_2] at h
  refine lv_iload_n hx hb dX6_least_5 rfl (lv_at hl 0 rfl) ?_
  refine lv_goto (tgt := 10) hx hb dX6_least_6 (by decide) ?_
  subst hQ
  exact bw_iretP S hr hlocks h hI rfl dX6_least_10
set_option maxHeartbeats 4000000 in
set_option maxRecDepth 100000 in
theorem mX6_save (l : Launch) (G : va_G) (cy : Nat → ClassId) (g : Nat) (a : Nat → Nat) (z : bw_A1) (rows : bw_A1) (asd : bw_A1) (sm : Int32) (buf : bw_A1) (bm : Int32) (th : Int32) (od : bw_A1) (om : Int32) (ow : Int32) (ca : Int32) (bo : Int32) (la : Int32) (pl : Int32) (to : Int32) (rd : bw_A1) (hh : Int64) (rows' : bw_A1) (sm' : Int32) (h : fX6_save z rows sm = some (rows', sm')) : bw_M l yX6_save cX6_save 2 none 0 0 G cy g [.ref (a 0)] (bw_mW cy a z rows asd sm buf bm th od om ow ca bo la pl to rd hh) none (bw_mW cy a z rows' asd sm' buf bm th od om ow ca bo la pl to rd hh) := by
  refine bw_ofW (by decide +kernel) RX6 rfl (Nat.le_of_ble_eq_true rfl) ?_
  intro p e s m below meth c ls S hr hlocks hK hZ hI hl
  have hx := S.1
  have hb := S.2.1
  have hown := S.2.2.2.1
  have hts := S.2.2.2.2
  generalize va_A _ s.heap.size = A at hI hZ ⊢
  generalize hQ : MQ below _ _ s 0 0 A = Q
  have hl : lv_has ls 2 [(0, .ref (a 0))] := hl
  have l52 : ∀ (sm : Int32) (n : Nat) (H : Heap) (locs : List Loc) (ls : Array Slot) (rows : bw_A1) (x1 : Int32), lX6_save_52 z sm n rows x1 = some (rows', sm') → bw_I G A s.heap (bw_mW cy a z rows asd sm buf bm th od om ow ca bo la pl to rd hh) H locs → lv_has ls 2 [(0, .ref (a 0)), (1, .int x1)] → W p l e (bw_rm 0 0) s m [.ref (a 0)].toArray below meth c H locs 0 0 Q (F0 m 52 ls []) := by
    intro sm n
    induction n with
    | zero => intro H locs ls rows x1 h; exact bw_none h
    | succ n ih =>
      intro H locs ls rows x1 h hI hl
      have h : bX6_save_52  (lX6_save_52 z sm n) z sm rows x1 = some (rows', sm') := h
      unfold bX6_save_52 at h
      refine lv_iload_n hx hb dX6_save_52 rfl (lv_at hl 1 rfl) ?_
      refine lv_sipush (v := 444) hx hb dX6_save_53 (by decide) ?_
      refine lv_icmp_ge (tgt := 86) hx hb dX6_save_56 (by decide) (fun c_56 => ?_) (fun c_56 => ?_)
      · rw [if_pos c_56] at h
        refine lv_aload_n hx hb dX6_save_86 rfl (lv_at hl 0 rfl) ?_
        refine lv_dup hx hb dX6_save_87 rfl ?_
        refine bw_get S hK hI 0 3 rfl rfl (by decide) i_X6 f_X6_32 rfl dX6_save_88 ?_
        refine lv_iconst (v := 1) hx hb dX6_save_91 rfl ?_
        refine lv_iadd hx hb dX6_save_92 ?_
        refine lv_topi (fun sm_93 e_93 => ?_)
        have h := bw_let_e h e_93
        clear e_93
        refine bw_put S hK hI 0 3 (ws' := (bw_mW cy a z rows asd sm_93 buf bm th od om ow ca bo la pl to rd hh)) tyX6 tyX6_ok nmX6 rfl rfl (by decide) i_X6 f_X6_32 rfl rfl rfl rfl (Nat.le_of_ble_eq_true rfl) rfl dX6_save_93 (fun H locs hI => ?_)
        subst hQ
        exact bw_vret S hr hlocks h (fun q : (bw_A1 × Int32) => (bw_mW cy a z q.1 asd q.2 buf bm th od om ow ca bo la pl to rd hh)) hI dX6_save_96
      rw [if_neg c_56] at h
      refine lv_aload_n hx hb dX6_save_59 rfl (lv_at hl 0 rfl) ?_
      refine bw_get S hK hI 0 1 rfl rfl (by decide) i_X6 f_X6_13 rfl dX6_save_60 ?_
      refine lv_sipush (v := 444) hx hb dX6_save_63 (by decide) ?_
      refine lv_aload_n hx hb dX6_save_66 rfl (lv_at hl 0 rfl) ?_
      refine bw_get S hK hI 0 3 rfl rfl (by decide) i_X6 f_X6_32 rfl dX6_save_67 ?_
      refine lv_imul hx hb dX6_save_70 ?_
      refine lv_iload_n hx hb dX6_save_71 rfl (lv_at hl 1 rfl) ?_
      refine lv_iadd hx hb dX6_save_72 ?_
      refine lv_aload_n hx hb dX6_save_73 rfl (lv_at hl 0 rfl) ?_
      refine bw_get S hK hI 0 0 rfl rfl (by decide) i_X6 f_X6_7 rfl dX6_save_74 ?_
      refine lv_iload_n hx hb dX6_save_77 rfl (lv_at hl 1 rfl) ?_
      obtain ⟨v78, hv, h⟩ := bw_b1_e h
      refine bw_iald hx hb hK hI 1 hv rfl dX6_save_78 ?_
      obtain ⟨rows_79, hv, h⟩ := bw_b1_e h
      refine bw_iast hx hb hK hI 2 (ws' := (bw_mW cy a z rows_79 asd sm buf bm th od om ow ca bo la pl to rd hh)) hv rfl rfl dX6_save_79 (fun H locs hI => ?_)
      obtain ⟨x1_80, e_80⟩ : ∃ y : Int32, y = x1 + 1 := ⟨_, rfl⟩
      have h := bw_let_e h e_80
      refine lv_iinc (v := x1_80) (lv' := [(1, .int x1_80), (0, .ref (a 0))]) hx hb dX6_save_80 hl (k := 1) rfl (by rw [e_80]; rfl) (by decide) rfl (fun ls hl => ?_)
      clear e_80
      refine lv_goto (tgt := 52) hx hb dX6_save_83 (by decide) ?_
      exact ih _ _ _ rows_79 x1_80 h hI (lv_sub hl [1,0] rfl)
  have j50 : ∀ (rows : bw_A1) (sm : Int32) (H : Heap) (locs : List Loc) (ls : Array Slot), jX6_save_50 z rows sm = some (rows', sm') → bw_I G A s.heap (bw_mW cy a z rows asd sm buf bm th od om ow ca bo la pl to rd hh) H locs → lv_has ls 2 [(0, .ref (a 0))] → W p l e (bw_rm 0 0) s m [.ref (a 0)].toArray below meth c H locs 0 0 Q (F0 m 50 ls []) := by
    intro rows sm H locs ls h hI hl
    unfold jX6_save_50 at h
    refine lv_iconst (v := 0) hx hb dX6_save_50 rfl ?_
    refine lv_istore_n (lv' := [(1, .int 0), (0, .ref (a 0))]) hx hb dX6_save_51 rfl hl (by decide) rfl (fun ls hl => ?_)
    exact l52 sm bw_fu _ _ _ rows 0 h hI (lv_sub hl [1,0] rfl)
  have l11 : ∀ (sm : Int32) (n : Nat) (H : Heap) (locs : List Loc) (ls : Array Slot) (rows : bw_A1) (x1 : Int32), lX6_save_11 z sm n rows x1 = some (rows', sm') → bw_I G A s.heap (bw_mW cy a z rows asd sm buf bm th od om ow ca bo la pl to rd hh) H locs → lv_has ls 2 [(0, .ref (a 0)), (1, .int x1)] → W p l e (bw_rm 0 0) s m [.ref (a 0)].toArray below meth c H locs 0 0 Q (F0 m 11 ls []) := by
    intro sm n
    induction n with
    | zero => intro H locs ls rows x1 h; exact bw_none h
    | succ n ih =>
      intro H locs ls rows x1 h hI hl
      have h : bX6_save_11  (lX6_save_11 z sm n) z sm rows x1 = some (rows', sm') := h
      unfold bX6_save_11 at h
      refine lv_iload_n hx hb dX6_save_11 rfl (lv_at hl 1 rfl) ?_
      refine lv_sipush (v := 2220) hx hb dX6_save_12 (by decide) ?_
      refine lv_icmp_ge (tgt := 40) hx hb dX6_save_15 (by decide) (fun c_15 => ?_) (fun c_15 => ?_)
      · rw [if_pos c_15] at h
        refine lv_aload_n hx hb dX6_save_40 rfl (lv_at hl 0 rfl) ?_
        refine lv_dup hx hb dX6_save_41 rfl ?_
        refine bw_get S hK hI 0 3 rfl rfl (by decide) i_X6 f_X6_32 rfl dX6_save_42 ?_
        refine lv_iconst (v := 1) hx hb dX6_save_45 rfl ?_
        refine lv_isub hx hb dX6_save_46 ?_
        refine lv_topi (fun sm_47 e_47 => ?_)
        have h := bw_let_e h e_47
        clear e_47
        refine bw_put S hK hI 0 3 (ws' := (bw_mW cy a z rows asd sm_47 buf bm th od om ow ca bo la pl to rd hh)) tyX6 tyX6_ok nmX6 rfl rfl (by decide) i_X6 f_X6_32 rfl rfl rfl rfl (Nat.le_of_ble_eq_true rfl) rfl dX6_save_47 (fun H locs hI => ?_)
        exact j50 rows sm_47 _ _ _ h hI (lv_sub hl [0] rfl)
      rw [if_neg c_15] at h
      refine lv_aload_n hx hb dX6_save_18 rfl (lv_at hl 0 rfl) ?_
      refine bw_get S hK hI 0 1 rfl rfl (by decide) i_X6 f_X6_13 rfl dX6_save_19 ?_
      refine lv_iload_n hx hb dX6_save_22 rfl (lv_at hl 1 rfl) ?_
      refine lv_aload_n hx hb dX6_save_23 rfl (lv_at hl 0 rfl) ?_
      refine bw_get S hK hI 0 1 rfl rfl (by decide) i_X6 f_X6_13 rfl dX6_save_24 ?_
      refine lv_iload_n hx hb dX6_save_27 rfl (lv_at hl 1 rfl) ?_
      refine lv_sipush (v := 444) hx hb dX6_save_28 (by decide) ?_
      refine lv_iadd hx hb dX6_save_31 ?_
      obtain ⟨v32, hv, h⟩ := bw_b1_e h
      refine bw_iald hx hb hK hI 2 hv rfl dX6_save_32 ?_
      obtain ⟨rows_33, hv, h⟩ := bw_b1_e h
      refine bw_iast hx hb hK hI 2 (ws' := (bw_mW cy a z rows_33 asd sm buf bm th od om ow ca bo la pl to rd hh)) hv rfl rfl dX6_save_33 (fun H locs hI => ?_)
      obtain ⟨x1_34, e_34⟩ : ∃ y : Int32, y = x1 + 1 := ⟨_, rfl⟩
      have h := bw_let_e h e_34
      refine lv_iinc (v := x1_34) (lv' := [(1, .int x1_34), (0, .ref (a 0))]) hx hb dX6_save_34 hl (k := 1) rfl (by rw [e_34]; rfl) (by decide) rfl (fun ls hl => ?_)
      clear e_34
      refine lv_goto (tgt := 11) hx hb dX6_save_37 (by decide) ?_
      exact ih _ _ _ rows_33 x1_34 h hI (lv_sub hl [1,0] rfl)
  unfold fX6_save at h
  refine lv_aload_n hx hb dX6_save_0 rfl (lv_at hl 0 rfl) ?_
  refine bw_get S hK hI 0 3 rfl rfl (by decide) i_X6 f_X6_32 rfl dX6_save_1 ?_
  refine lv_bipush (v := 6) hx hb dX6_save_4 (by decide) ?_
  refine lv_icmp_ne (tgt := 50) hx hb dX6_save_6 (by decide) (fun c_6 => ?_) (fun c_6 => ?_)
  · rw [if_neg c_6] at h
    exact j50 rows sm _ _ _ h hI (lv_sub hl [0] rfl)
  rw [if_pos c_6] at h
  refine lv_iconst (v := 0) hx hb dX6_save_9 rfl ?_
  refine lv_istore_n (lv' := [(1, .int 0), (0, .ref (a 0))]) hx hb dX6_save_10 rfl hl (by decide) rfl (fun ls hl => ?_)
  exact l11 sm bw_fu _ _ _ rows 0 h hI (lv_sub hl [1,0] rfl)
set_option maxHeartbeats 4000000 in
set_option maxRecDepth 100000 in
theorem mX6_putAside (l : Launch) (G : va_G) (cy : Nat → ClassId) (g : Nat) (a : Nat → Nat) (z : bw_A1) (rows : bw_A1) (asd : bw_A1) (sm : Int32) (buf : bw_A1) (bm : Int32) (th : Int32) (od : bw_A1) (om : Int32) (ow : Int32) (ca : Int32) (bo : Int32) (la : Int32) (pl : Int32) (to : Int32) (rd : bw_A1) (hh : Int64) (asd' : bw_A1) (h : fX6_putAside z asd = some asd') : bw_M l yX6_putAside cX6_putAside 2 none 0 0 G cy g [.ref (a 0)] (bw_mW cy a z rows asd sm buf bm th od om ow ca bo la pl to rd hh) none (bw_mW cy a z rows asd' sm buf bm th od om ow ca bo la pl to rd hh) := by
  refine bw_ofW (by decide +kernel) RX6 rfl (Nat.le_of_ble_eq_true rfl) ?_
  intro p e s m below meth c ls S hr hlocks hK hZ hI hl
  have hx := S.1
  have hb := S.2.1
  have hown := S.2.2.2.1
  have hts := S.2.2.2.2
  generalize va_A _ s.heap.size = A at hI hZ ⊢
  generalize hQ : MQ below _ _ s 0 0 A = Q
  have hl : lv_has ls 2 [(0, .ref (a 0))] := hl
  have l2 : ∀  (n : Nat) (H : Heap) (locs : List Loc) (ls : Array Slot) (asd : bw_A1) (x1 : Int32), lX6_putAside_2 z n asd x1 = some asd' → bw_I G A s.heap (bw_mW cy a z rows asd sm buf bm th od om ow ca bo la pl to rd hh) H locs → lv_has ls 2 [(0, .ref (a 0)), (1, .int x1)] → W p l e (bw_rm 0 0) s m [.ref (a 0)].toArray below meth c H locs 0 0 Q (F0 m 2 ls []) := by
    intro  n
    induction n with
    | zero => intro H locs ls asd x1 h; exact bw_none h
    | succ n ih =>
      intro H locs ls asd x1 h hI hl
      have h : bX6_putAside_2  (lX6_putAside_2 z n) z asd x1 = some asd' := h
      unfold bX6_putAside_2 at h
      refine lv_iload_n hx hb dX6_putAside_2 rfl (lv_at hl 1 rfl) ?_
      refine lv_sipush (v := 444) hx hb dX6_putAside_3 (by decide) ?_
      refine lv_icmp_ge (tgt := 27) hx hb dX6_putAside_6 (by decide) (fun c_6 => ?_) (fun c_6 => ?_)
      · rw [if_pos c_6] at h
        subst hQ
        exact bw_vret S hr hlocks h (fun q : bw_A1 => (bw_mW cy a z rows q sm buf bm th od om ow ca bo la pl to rd hh)) hI dX6_putAside_27
      rw [if_neg c_6] at h
      refine lv_aload_n hx hb dX6_putAside_9 rfl (lv_at hl 0 rfl) ?_
      refine bw_get S hK hI 0 2 rfl rfl (by decide) i_X6 f_X6_16 rfl dX6_putAside_10 ?_
      refine lv_iload_n hx hb dX6_putAside_13 rfl (lv_at hl 1 rfl) ?_
      refine lv_aload_n hx hb dX6_putAside_14 rfl (lv_at hl 0 rfl) ?_
      refine bw_get S hK hI 0 0 rfl rfl (by decide) i_X6 f_X6_7 rfl dX6_putAside_15 ?_
      refine lv_iload_n hx hb dX6_putAside_18 rfl (lv_at hl 1 rfl) ?_
      obtain ⟨v19, hv, h⟩ := bw_b1_e h
      refine bw_iald hx hb hK hI 1 hv rfl dX6_putAside_19 ?_
      obtain ⟨asd_20, hv, h⟩ := bw_b1_e h
      refine bw_iast hx hb hK hI 3 (ws' := (bw_mW cy a z rows asd_20 sm buf bm th od om ow ca bo la pl to rd hh)) hv rfl rfl dX6_putAside_20 (fun H locs hI => ?_)
      obtain ⟨x1_21, e_21⟩ : ∃ y : Int32, y = x1 + 1 := ⟨_, rfl⟩
      have h := bw_let_e h e_21
      refine lv_iinc (v := x1_21) (lv' := [(1, .int x1_21), (0, .ref (a 0))]) hx hb dX6_putAside_21 hl (k := 1) rfl (by rw [e_21]; rfl) (by decide) rfl (fun ls hl => ?_)
      clear e_21
      refine lv_goto (tgt := 2) hx hb dX6_putAside_24 (by decide) ?_
      exact ih _ _ _ asd_20 x1_21 h hI (lv_sub hl [1,0] rfl)
  unfold fX6_putAside at h
  refine lv_iconst (v := 0) hx hb dX6_putAside_0 rfl ?_
  refine lv_istore_n (lv' := [(1, .int 0), (0, .ref (a 0))]) hx hb dX6_putAside_1 rfl hl (by decide) rfl (fun ls hl => ?_)
  exact l2  bw_fu _ _ _ asd 0 h hI (lv_sub hl [1,0] rfl)
set_option maxHeartbeats 4000000 in
set_option maxRecDepth 100000 in
theorem mX6_putBack (l : Launch) (G : va_G) (cy : Nat → ClassId) (g : Nat) (a : Nat → Nat) (z : bw_A1) (rows : bw_A1) (asd : bw_A1) (sm : Int32) (buf : bw_A1) (bm : Int32) (th : Int32) (od : bw_A1) (om : Int32) (ow : Int32) (ca : Int32) (bo : Int32) (la : Int32) (pl : Int32) (to : Int32) (rd : bw_A1) (hh : Int64) (z' : bw_A1) (h : fX6_putBack z asd = some z') : bw_M l yX6_putBack cX6_putBack 2 none 0 0 G cy g [.ref (a 0)] (bw_mW cy a z rows asd sm buf bm th od om ow ca bo la pl to rd hh) none (bw_mW cy a z' rows asd sm buf bm th od om ow ca bo la pl to rd hh) := by
  refine bw_ofW (by decide +kernel) RX6 rfl (Nat.le_of_ble_eq_true rfl) ?_
  intro p e s m below meth c ls S hr hlocks hK hZ hI hl
  have hx := S.1
  have hb := S.2.1
  have hown := S.2.2.2.1
  have hts := S.2.2.2.2
  generalize va_A _ s.heap.size = A at hI hZ ⊢
  generalize hQ : MQ below _ _ s 0 0 A = Q
  have hl : lv_has ls 2 [(0, .ref (a 0))] := hl
  have l2 : ∀  (n : Nat) (H : Heap) (locs : List Loc) (ls : Array Slot) (z : bw_A1) (x1 : Int32), lX6_putBack_2 asd n z x1 = some z' → bw_I G A s.heap (bw_mW cy a z rows asd sm buf bm th od om ow ca bo la pl to rd hh) H locs → lv_has ls 2 [(0, .ref (a 0)), (1, .int x1)] → W p l e (bw_rm 0 0) s m [.ref (a 0)].toArray below meth c H locs 0 0 Q (F0 m 2 ls []) := by
    intro  n
    induction n with
    | zero => intro H locs ls z x1 h; exact bw_none h
    | succ n ih =>
      intro H locs ls z x1 h hI hl
      have h : bX6_putBack_2  (lX6_putBack_2 asd n) asd z x1 = some z' := h
      unfold bX6_putBack_2 at h
      refine lv_iload_n hx hb dX6_putBack_2 rfl (lv_at hl 1 rfl) ?_
      refine lv_sipush (v := 444) hx hb dX6_putBack_3 (by decide) ?_
      refine lv_icmp_ge (tgt := 27) hx hb dX6_putBack_6 (by decide) (fun c_6 => ?_) (fun c_6 => ?_)
      · rw [if_pos c_6] at h
        subst hQ
        exact bw_vret S hr hlocks h (fun q : bw_A1 => (bw_mW cy a q rows asd sm buf bm th od om ow ca bo la pl to rd hh)) hI dX6_putBack_27
      rw [if_neg c_6] at h
      refine lv_aload_n hx hb dX6_putBack_9 rfl (lv_at hl 0 rfl) ?_
      refine bw_get S hK hI 0 0 rfl rfl (by decide) i_X6 f_X6_7 rfl dX6_putBack_10 ?_
      refine lv_iload_n hx hb dX6_putBack_13 rfl (lv_at hl 1 rfl) ?_
      refine lv_aload_n hx hb dX6_putBack_14 rfl (lv_at hl 0 rfl) ?_
      refine bw_get S hK hI 0 2 rfl rfl (by decide) i_X6 f_X6_16 rfl dX6_putBack_15 ?_
      refine lv_iload_n hx hb dX6_putBack_18 rfl (lv_at hl 1 rfl) ?_
      obtain ⟨v19, hv, h⟩ := bw_b1_e h
      refine bw_iald hx hb hK hI 3 hv rfl dX6_putBack_19 ?_
      obtain ⟨z_20, hv, h⟩ := bw_b1_e h
      refine bw_iast hx hb hK hI 1 (ws' := (bw_mW cy a z_20 rows asd sm buf bm th od om ow ca bo la pl to rd hh)) hv rfl rfl dX6_putBack_20 (fun H locs hI => ?_)
      obtain ⟨x1_21, e_21⟩ : ∃ y : Int32, y = x1 + 1 := ⟨_, rfl⟩
      have h := bw_let_e h e_21
      refine lv_iinc (v := x1_21) (lv' := [(1, .int x1_21), (0, .ref (a 0))]) hx hb dX6_putBack_21 hl (k := 1) rfl (by rw [e_21]; rfl) (by decide) rfl (fun ls hl => ?_)
      clear e_21
      refine lv_goto (tgt := 2) hx hb dX6_putBack_24 (by decide) ?_
      exact ih _ _ _ z_20 x1_21 h hI (lv_sub hl [1,0] rfl)
  unfold fX6_putBack at h
  refine lv_iconst (v := 0) hx hb dX6_putBack_0 rfl ?_
  refine lv_istore_n (lv' := [(1, .int 0), (0, .ref (a 0))]) hx hb dX6_putBack_1 rfl hl (by decide) rfl (fun ls hl => ?_)
  exact l2  bw_fu _ _ _ z 0 h hI (lv_sub hl [1,0] rfl)
set_option maxHeartbeats 4000000 in
set_option maxRecDepth 100000 in
theorem mX6_at (l : Launch) (G : va_G) (cy : Nat → ClassId) (g : Nat) (p0 : Int32) (r : Int32) (h : fX6_at p0 = some r) : bw_M l yX6_at cX6_at 1 (some .int) 0 0 G cy g [.int p0] [] (some (.int r)) [] := by
  refine bw_ofW (by decide +kernel) RX6 rfl (Nat.le_of_ble_eq_true rfl) ?_
  intro p e s m below meth c ls S hr hlocks hK hZ hI hl
  have hx := S.1
  have hb := S.2.1
  have hown := S.2.2.2.1
  have hts := S.2.2.2.2
  generalize va_A _ s.heap.size = A at hI hZ ⊢
  generalize hQ : MQ below _ _ s 0 0 A = Q
  have hl : lv_has ls 1 [(0, .int p0)] := hl
  unfold fX6_at at h
  refine lv_bipush (v := 6) hx hb dX6_at_0 (by decide) ?_
  refine lv_bipush (v := 58) hx hb dX6_at_2 (by decide) ?_
  refine lv_iload_n hx hb dX6_at_4 rfl (lv_at hl 0 rfl) ?_
  refine lv_imul hx hb dX6_at_5 ?_
  refine lv_iadd hx hb dX6_at_6 ?_
  subst hQ
  exact bw_iretP S hr hlocks h hI rfl dX6_at_7
set_option maxHeartbeats 4000000 in
set_option maxRecDepth 100000 in
theorem mX6_loanAt (l : Launch) (G : va_G) (cy : Nat → ClassId) (g : Nat) (p0 : Int32) (r : Int32) (h : fX6_loanAt p0 = some r) : bw_M l yX6_loanAt cX6_loanAt 1 (some .int) 0 0 G cy g [.int p0] [] (some (.int r)) [] := by
  refine bw_ofW (by decide +kernel) RX6 rfl (Nat.le_of_ble_eq_true rfl) ?_
  intro p e s m below meth c ls S hr hlocks hK hZ hI hl
  have hx := S.1
  have hb := S.2.1
  have hown := S.2.2.2.1
  have hts := S.2.2.2.2
  generalize va_A _ s.heap.size = A at hI hZ ⊢
  generalize hQ : MQ below _ _ s 0 0 A = Q
  have hl : lv_has ls 1 [(0, .int p0)] := hl
  unfold fX6_loanAt at h
  refine lv_sipush (v := 354) hx hb dX6_loanAt_0 (by decide) ?_
  refine lv_iconst (v := 3) hx hb dX6_loanAt_3 rfl ?_
  refine lv_iload_n hx hb dX6_loanAt_4 rfl (lv_at hl 0 rfl) ?_
  refine lv_imul hx hb dX6_loanAt_5 ?_
  refine lv_iadd hx hb dX6_loanAt_6 ?_
  subst hQ
  exact bw_iretP S hr hlocks h hI rfl dX6_loanAt_7
set_option maxHeartbeats 4000000 in
set_option maxRecDepth 100000 in
theorem mX6_isProject (l : Launch) (G : va_G) (cy : Nat → ClassId) (g : Nat) (a : Nat → Nat) (z : bw_A1) (rows : bw_A1) (asd : bw_A1) (sm : Int32) (buf : bw_A1) (bm : Int32) (th : Int32) (od : bw_A1) (om : Int32) (ow : Int32) (ca : Int32) (bo : Int32) (la : Int32) (pl : Int32) (to : Int32) (rd : bw_A1) (hh : Int64) (p1 : Int32) (r : Int32) (h : fX6_isProject z p1 = some r) : bw_M l yX6_isProject cX6_isProject 2 (some .boolean) 1 22 G cy g [.ref (a 0), .int p1] (bw_mW cy a z rows asd sm buf bm th od om ow ca bo la pl to rd hh) (some (.int r)) (bw_mW cy a z rows asd sm buf bm th od om ow ca bo la pl to rd hh) := by
  refine bw_ofW (by decide +kernel) RX6 rfl (Nat.le_of_ble_eq_true rfl) ?_
  intro p e s m below meth c ls S hr hlocks hK hZ hI hl
  have hx := S.1
  have hb := S.2.1
  have hown := S.2.2.2.1
  have hts := S.2.2.2.2
  generalize va_A _ s.heap.size = A at hI hZ ⊢
  generalize hQ : MQ below _ _ s 0 0 A = Q
  have hl : lv_has ls 2 [(0, .ref (a 0)), (1, .int p1)] := hl
  unfold fX6_isProject at h
  refine lv_iload_n hx hb dX6_isProject_0 rfl (lv_at hl 1 rfl) ?_
  refine lv_iconst (v := 0) hx hb dX6_isProject_1 rfl ?_
  refine lv_aload_n hx hb dX6_isProject_2 rfl (lv_at hl 0 rfl) ?_
  refine bw_get S hK hI 0 0 rfl rfl (by decide) i_X6 f_X6_7 rfl dX6_isProject_3 ?_
  refine lv_iconst (v := 0) hx hb dX6_isProject_6 rfl ?_
  obtain ⟨v7, hv, h⟩ := bw_b1_e h
  refine bw_iald hx hb hK hI 1 hv rfl dX6_isProject_7 ?_
  refine lv_iconst (v := 1) hx hb dX6_isProject_8 rfl ?_
  refine lv_isub hx hb dX6_isProject_9 ?_
  obtain ⟨r10, hc, h⟩ := bw_b1_e h
  refine bw_callP S hK hZ hI (mX6_in l G cy g p1 0 (v7 - 1) r10 hc) Y_X6_in V_X6_in l_X6_35 ⟨(Nat.le_of_ble_eq_true rfl), (Nat.le_of_ble_eq_true rfl)⟩ (rest := []) (st1 := [.int r10]) rfl hl.1 rfl rfl (Nat.le_of_ble_eq_true rfl) dX6_isProject_10 ⟨Nat.le_refl _, Nat.le_refl _⟩ (fun H locs hI => ?_)
  subst hQ
  obtain ⟨h9, h⟩ := bw_bool_e h
  exact bw_iretP S hr hlocks h hI h9 dX6_isProject_13
set_option maxHeartbeats 4000000 in
set_option maxRecDepth 100000 in
theorem mX6_isOpen (l : Launch) (G : va_G) (cy : Nat → ClassId) (g : Nat) (a : Nat → Nat) (z : bw_A1) (rows : bw_A1) (asd : bw_A1) (sm : Int32) (buf : bw_A1) (bm : Int32) (th : Int32) (od : bw_A1) (om : Int32) (ow : Int32) (ca : Int32) (bo : Int32) (la : Int32) (pl : Int32) (to : Int32) (rd : bw_A1) (hh : Int64) (p1 : Int32) (r : Int32) (h : fX6_isOpen z p1 = some r) : bw_M l yX6_isOpen cX6_isOpen 2 (some .boolean) 1 20 G cy g [.ref (a 0), .int p1] (bw_mW cy a z rows asd sm buf bm th od om ow ca bo la pl to rd hh) (some (.int r)) (bw_mW cy a z rows asd sm buf bm th od om ow ca bo la pl to rd hh) := by
  refine bw_ofW (by decide +kernel) RX6 rfl (Nat.le_of_ble_eq_true rfl) ?_
  intro p e s m below meth c ls S hr hlocks hK hZ hI hl
  have hx := S.1
  have hb := S.2.1
  have hown := S.2.2.2.1
  have hts := S.2.2.2.2
  generalize va_A _ s.heap.size = A at hI hZ ⊢
  generalize hQ : MQ below _ _ s 0 0 A = Q
  have hl : lv_has ls 2 [(0, .ref (a 0)), (1, .int p1)] := hl
  unfold fX6_isOpen at h
  refine lv_aload_n hx hb dX6_isOpen_0 rfl (lv_at hl 0 rfl) ?_
  refine bw_get S hK hI 0 0 rfl rfl (by decide) i_X6 f_X6_7 rfl dX6_isOpen_1 ?_
  refine lv_iload_n hx hb dX6_isOpen_4 rfl (lv_at hl 1 rfl) ?_
  obtain ⟨r5, hc, h⟩ := bw_b1_e h
  refine bw_callP S hK hZ hI (mX6_at l G cy g p1 r5 hc) Y_X6_at V_X6_at l_X6_39 ⟨(Nat.le_of_ble_eq_true rfl), (Nat.le_of_ble_eq_true rfl)⟩ (rest := [.ref (a 1)]) (st1 := [.int r5, .ref (a 1)]) rfl hl.1 rfl rfl (Nat.le_of_ble_eq_true rfl) dX6_isOpen_5 ⟨Nat.le_refl _, Nat.le_refl _⟩ (fun H locs hI => ?_)
  refine lv_bipush (v := 7) hx hb dX6_isOpen_8 (by decide) ?_
  refine lv_iadd hx hb dX6_isOpen_10 ?_
  obtain ⟨v11, hv, h⟩ := bw_b1_e h
  refine bw_iald hx hb hK hI 1 hv rfl dX6_isOpen_11 ?_
  refine lv_iconst (v := 1) hx hb dX6_isOpen_12 rfl ?_
  refine lv_icmp_ne (tgt := 20) hx hb dX6_isOpen_13 (by decide) (fun c_13 => ?_) (fun c_13 => ?_)
  · rw [if_neg c_13] at h
    refine lv_iconst (v := 0) hx hb dX6_isOpen_20 rfl ?_
    subst hQ
    exact bw_iretP S hr hlocks h hI rfl dX6_isOpen_21
  rw [if_pos c_13] at h
  refine lv_iconst (v := 1) hx hb dX6_isOpen_16 rfl ?_
  refine lv_goto (tgt := 21) hx hb dX6_isOpen_17 (by decide) ?_
  subst hQ
  exact bw_iretP S hr hlocks h hI rfl dX6_isOpen_21
set_option maxHeartbeats 4000000 in
set_option maxRecDepth 100000 in
theorem mX6_hasNext (l : Launch) (G : va_G) (cy : Nat → ClassId) (g : Nat) (a : Nat → Nat) (z : bw_A1) (rows : bw_A1) (asd : bw_A1) (sm : Int32) (buf : bw_A1) (bm : Int32) (th : Int32) (od : bw_A1) (om : Int32) (ow : Int32) (ca : Int32) (bo : Int32) (la : Int32) (pl : Int32) (to : Int32) (rd : bw_A1) (hh : Int64) (p1 : Int32) (r : Int32) (h : fX6_hasNext z p1 = some r) : bw_M l yX6_hasNext cX6_hasNext 2 (some .boolean) 1 20 G cy g [.ref (a 0), .int p1] (bw_mW cy a z rows asd sm buf bm th od om ow ca bo la pl to rd hh) (some (.int r)) (bw_mW cy a z rows asd sm buf bm th od om ow ca bo la pl to rd hh) := by
  refine bw_ofW (by decide +kernel) RX6 rfl (Nat.le_of_ble_eq_true rfl) ?_
  intro p e s m below meth c ls S hr hlocks hK hZ hI hl
  have hx := S.1
  have hb := S.2.1
  have hown := S.2.2.2.1
  have hts := S.2.2.2.2
  generalize va_A _ s.heap.size = A at hI hZ ⊢
  generalize hQ : MQ below _ _ s 0 0 A = Q
  have hl : lv_has ls 2 [(0, .ref (a 0)), (1, .int p1)] := hl
  unfold fX6_hasNext at h
  refine lv_aload_n hx hb dX6_hasNext_0 rfl (lv_at hl 0 rfl) ?_
  refine bw_get S hK hI 0 0 rfl rfl (by decide) i_X6 f_X6_7 rfl dX6_hasNext_1 ?_
  refine lv_iload_n hx hb dX6_hasNext_4 rfl (lv_at hl 1 rfl) ?_
  obtain ⟨r5, hc, h⟩ := bw_b1_e h
  refine bw_callP S hK hZ hI (mX6_at l G cy g p1 r5 hc) Y_X6_at V_X6_at l_X6_39 ⟨(Nat.le_of_ble_eq_true rfl), (Nat.le_of_ble_eq_true rfl)⟩ (rest := [.ref (a 1)]) (st1 := [.int r5, .ref (a 1)]) rfl hl.1 rfl rfl (Nat.le_of_ble_eq_true rfl) dX6_hasNext_5 ⟨Nat.le_refl _, Nat.le_refl _⟩ (fun H locs hI => ?_)
  refine lv_bipush (v := 6) hx hb dX6_hasNext_8 (by decide) ?_
  refine lv_iadd hx hb dX6_hasNext_10 ?_
  obtain ⟨v11, hv, h⟩ := bw_b1_e h
  refine bw_iald hx hb hK hI 1 hv rfl dX6_hasNext_11 ?_
  refine lv_aload_n hx hb dX6_hasNext_12 rfl (lv_at hl 0 rfl) ?_
  refine bw_get S hK hI 0 0 rfl rfl (by decide) i_X6 f_X6_7 rfl dX6_hasNext_13 ?_
  refine lv_iload_n hx hb dX6_hasNext_16 rfl (lv_at hl 1 rfl) ?_
  obtain ⟨r17, hc, h⟩ := bw_b1_e h
  refine bw_callP S hK hZ hI (mX6_at l G cy g p1 r17 hc) Y_X6_at V_X6_at l_X6_39 ⟨(Nat.le_of_ble_eq_true rfl), (Nat.le_of_ble_eq_true rfl)⟩ (rest := [.ref (a 1), .int v11]) (st1 := [.int r17, .ref (a 1), .int v11]) rfl hl.1 rfl rfl (Nat.le_of_ble_eq_true rfl) dX6_hasNext_17 ⟨Nat.le_refl _, Nat.le_refl _⟩ (fun H locs hI => ?_)
  refine lv_iconst (v := 5) hx hb dX6_hasNext_20 rfl ?_
  refine lv_iadd hx hb dX6_hasNext_21 ?_
  obtain ⟨v22, hv, h⟩ := bw_b1_e h
  refine bw_iald hx hb hK hI 1 hv rfl dX6_hasNext_22 ?_
  refine lv_icmp_ge (tgt := 30) hx hb dX6_hasNext_23 (by decide) (fun c_23 => ?_) (fun c_23 => ?_)
  · rw [if_pos c_23] at h
    refine lv_iconst (v := 0) hx hb dX6_hasNext_30 rfl ?_
    subst hQ
    exact bw_iretP S hr hlocks h hI rfl dX6_hasNext_31
  rw [if_neg c_23] at h
  refine lv_iconst (v := 1) hx hb dX6_hasNext_26 rfl ?_
  refine lv_goto (tgt := 31) hx hb dX6_hasNext_27 (by decide) ?_
  subst hQ
  exact bw_iretP S hr hlocks h hI rfl dX6_hasNext_31
set_option maxHeartbeats 4000000 in
set_option maxRecDepth 100000 in
theorem mX6_mayDo (l : Launch) (G : va_G) (cy : Nat → ClassId) (g : Nat) (a : Nat → Nat) (z : bw_A1) (rows : bw_A1) (asd : bw_A1) (sm : Int32) (buf : bw_A1) (bm : Int32) (th : Int32) (od : bw_A1) (om : Int32) (ow : Int32) (ca : Int32) (bo : Int32) (la : Int32) (pl : Int32) (to : Int32) (rd : bw_A1) (hh : Int64) (p1 : Int32) (r : Int32) (h : fX6_mayDo z p1 = some r) : bw_M l yX6_mayDo cX6_mayDo 2 (some .boolean) 2 41 G cy g [.ref (a 0), .int p1] (bw_mW cy a z rows asd sm buf bm th od om ow ca bo la pl to rd hh) (some (.int r)) (bw_mW cy a z rows asd sm buf bm th od om ow ca bo la pl to rd hh) := by
  refine bw_ofW (by decide +kernel) RX6 rfl (Nat.le_of_ble_eq_true rfl) ?_
  intro p e s m below meth c ls S hr hlocks hK hZ hI hl
  have hx := S.1
  have hb := S.2.1
  have hown := S.2.2.2.1
  have hts := S.2.2.2.2
  generalize va_A _ s.heap.size = A at hI hZ ⊢
  generalize hQ : MQ below _ _ s 0 0 A = Q
  have hl : lv_has ls 2 [(0, .ref (a 0)), (1, .int p1)] := hl
  have j20 : ∀  (H : Heap) (locs : List Loc) (ls : Array Slot), jX6_mayDo_20 z = some r → bw_I G A s.heap (bw_mW cy a z rows asd sm buf bm th od om ow ca bo la pl to rd hh) H locs → lv_has ls 2 [] → W p l e (bw_rm 2 41) s m [.ref (a 0), .int p1].toArray below meth c H locs 0 0 Q (F0 m 20 ls []) := by
    intro  H locs ls h hI hl
    unfold jX6_mayDo_20 at h
    refine lv_iconst (v := 0) hx hb dX6_mayDo_20 rfl ?_
    subst hQ
    exact bw_iretP S hr hlocks h hI rfl dX6_mayDo_21
  unfold fX6_mayDo at h
  refine lv_aload_n hx hb dX6_mayDo_0 rfl (lv_at hl 0 rfl) ?_
  refine lv_iload_n hx hb dX6_mayDo_1 rfl (lv_at hl 1 rfl) ?_
  obtain ⟨r2, hc, h⟩ := bw_b1_e h
  refine bw_callV S hK hZ hI (mX6_isOpen l G cy g a z rows asd sm buf bm th od om ow ca bo la pl to rd hh p1 r2 hc) Y_X6_isOpen V_X6_isOpen l_X6_43 ⟨(Nat.le_of_ble_eq_true rfl), (Nat.le_of_ble_eq_true rfl)⟩ (q0 := 0) rfl rfl rfl (ws' := (bw_mW cy a z rows asd sm buf bm th od om ow ca bo la pl to rd hh)) (bw_pS _) (bw_pS' _) rfl rfl hl.1 (rest := []) (st1 := [.int r2]) rfl rfl (Nat.le_of_ble_eq_true rfl) dX6_mayDo_2 ⟨Nat.le_refl _, Nat.le_refl _⟩ (fun H locs hI => ?_)
  refine lv_if_eq (tgt := 20) hx hb dX6_mayDo_5 (by decide) (fun c_5 => ?_) (fun c_5 => ?_)
  · rw [if_pos c_5] at h
    exact j20  _ _ _ h hI (lv_sub hl [] rfl)
  rw [if_neg c_5] at h
  refine lv_aload_n hx hb dX6_mayDo_8 rfl (lv_at hl 0 rfl) ?_
  refine lv_iload_n hx hb dX6_mayDo_9 rfl (lv_at hl 1 rfl) ?_
  obtain ⟨r10, hc, h⟩ := bw_b1_e h
  refine bw_callV S hK hZ hI (mX6_hasNext l G cy g a z rows asd sm buf bm th od om ow ca bo la pl to rd hh p1 r10 hc) Y_X6_hasNext V_X6_hasNext l_X6_47 ⟨(Nat.le_of_ble_eq_true rfl), (Nat.le_of_ble_eq_true rfl)⟩ (q0 := 0) rfl rfl rfl (ws' := (bw_mW cy a z rows asd sm buf bm th od om ow ca bo la pl to rd hh)) (bw_pS _) (bw_pS' _) rfl rfl hl.1 (rest := []) (st1 := [.int r10]) rfl rfl (Nat.le_of_ble_eq_true rfl) dX6_mayDo_10 ⟨Nat.le_refl _, Nat.le_refl _⟩ (fun H locs hI => ?_)
  refine lv_if_eq (tgt := 20) hx hb dX6_mayDo_13 (by decide) (fun c_13 => ?_) (fun c_13 => ?_)
  · rw [if_pos c_13] at h
    exact j20  _ _ _ h hI (lv_sub hl [] rfl)
  rw [if_neg c_13] at h
  refine lv_iconst (v := 1) hx hb dX6_mayDo_16 rfl ?_
  refine lv_goto (tgt := 21) hx hb dX6_mayDo_17 (by decide) ?_
  subst hQ
  exact bw_iretP S hr hlocks h hI rfl dX6_mayDo_21
set_option maxHeartbeats 4000000 in
set_option maxRecDepth 100000 in
theorem mX6_placeOf (l : Launch) (G : va_G) (cy : Nat → ClassId) (g : Nat) (a : Nat → Nat) (z : bw_A1) (rows : bw_A1) (asd : bw_A1) (sm : Int32) (buf : bw_A1) (bm : Int32) (th : Int32) (od : bw_A1) (om : Int32) (ow : Int32) (ca : Int32) (bo : Int32) (la : Int32) (pl : Int32) (to : Int32) (rd : bw_A1) (hh : Int64) (p1 : Int32) (p2 : Int32) (r : Int32) (h : fX6_placeOf z p1 p2 = some r) : bw_M l yX6_placeOf cX6_placeOf 4 (some .int) 1 20 G cy g [.ref (a 0), .int p1, .int p2] (bw_mW cy a z rows asd sm buf bm th od om ow ca bo la pl to rd hh) (some (.int r)) (bw_mW cy a z rows asd sm buf bm th od om ow ca bo la pl to rd hh) := by
  refine bw_ofW (by decide +kernel) RX6 rfl (Nat.le_of_ble_eq_true rfl) ?_
  intro p e s m below meth c ls S hr hlocks hK hZ hI hl
  have hx := S.1
  have hb := S.2.1
  have hown := S.2.2.2.1
  have hts := S.2.2.2.2
  generalize va_A _ s.heap.size = A at hI hZ ⊢
  generalize hQ : MQ below _ _ s 0 0 A = Q
  have hl : lv_has ls 4 [(0, .ref (a 0)), (1, .int p1), (2, .int p2)] := hl
  have j42 : ∀ (x1 : Int32) (x2 : Int32) (x3 : Int32) (k2 : Int32 → Option Int32) (hk2 : ∀ (H : Heap) (locs : List Loc) (ls : Array Slot) (x3_ : Int32), k2 x3_ = some r → bw_I G A s.heap (bw_mW cy a z rows asd sm buf bm th od om ow ca bo la pl to rd hh) H locs → lv_has ls 4 [(0, .ref (a 0)), (1, .int x1), (2, .int x2), (3, .int x3_)] → W p l e (bw_rm 1 20) s m [.ref (a 0), .int p1, .int p2].toArray below meth c H locs 0 0 Q (F0 m 2 ls [])) (H : Heap) (locs : List Loc) (ls : Array Slot), jX6_placeOf_42 k2 z x1 x2 x3 = some r → bw_I G A s.heap (bw_mW cy a z rows asd sm buf bm th od om ow ca bo la pl to rd hh) H locs → lv_has ls 4 [(0, .ref (a 0)), (1, .int x1), (2, .int x2), (3, .int x3)] → W p l e (bw_rm 1 20) s m [.ref (a 0), .int p1, .int p2].toArray below meth c H locs 0 0 Q (F0 m 42 ls []) := by
    intro x1 x2 x3 k2 hk2 H locs ls h hI hl
    unfold jX6_placeOf_42 at h
    obtain ⟨x3_42, e_42⟩ : ∃ y : Int32, y = x3 + 1 := ⟨_, rfl⟩
    have h := bw_let_e h e_42
    refine lv_iinc (v := x3_42) (lv' := [(3, .int x3_42), (0, .ref (a 0)), (1, .int x1), (2, .int x2)]) hx hb dX6_placeOf_42 hl (k := 3) rfl (by rw [e_42]; rfl) (by decide) rfl (fun ls hl => ?_)
    clear e_42
    refine lv_goto (tgt := 2) hx hb dX6_placeOf_45 (by decide) ?_
    exact hk2 _ _ _ x3_42 h hI (lv_sub hl [1,2,3,0] rfl)
  have l2 : ∀ (x1 : Int32) (x2 : Int32) (n : Nat) (H : Heap) (locs : List Loc) (ls : Array Slot) (x3 : Int32), lX6_placeOf_2 z x1 x2 n x3 = some r → bw_I G A s.heap (bw_mW cy a z rows asd sm buf bm th od om ow ca bo la pl to rd hh) H locs → lv_has ls 4 [(0, .ref (a 0)), (1, .int x1), (2, .int x2), (3, .int x3)] → W p l e (bw_rm 1 20) s m [.ref (a 0), .int p1, .int p2].toArray below meth c H locs 0 0 Q (F0 m 2 ls []) := by
    intro x1 x2 n
    induction n with
    | zero => intro H locs ls x3 h; exact bw_none h
    | succ n ih =>
      intro H locs ls x3 h hI hl
      have h : bX6_placeOf_2  (lX6_placeOf_2 z x1 x2 n) z x1 x2 x3 = some r := h
      unfold bX6_placeOf_2 at h
      refine lv_iload_n hx hb dX6_placeOf_2 rfl (lv_at hl 3 rfl) ?_
      refine lv_aload_n hx hb dX6_placeOf_3 rfl (lv_at hl 0 rfl) ?_
      refine bw_get S hK hI 0 0 rfl rfl (by decide) i_X6 f_X6_7 rfl dX6_placeOf_4 ?_
      refine lv_iconst (v := 1) hx hb dX6_placeOf_7 rfl ?_
      obtain ⟨v8, hv, h⟩ := bw_b1_e h
      refine bw_iald hx hb hK hI 1 hv rfl dX6_placeOf_8 ?_
      refine lv_icmp_ge (tgt := 48) hx hb dX6_placeOf_9 (by decide) (fun c_9 => ?_) (fun c_9 => ?_)
      · rw [if_pos c_9] at h
        refine lv_iconst (v := (-1)) hx hb dX6_placeOf_48 rfl ?_
        subst hQ
        exact bw_iretP S hr hlocks h hI rfl dX6_placeOf_49
      rw [if_neg c_9] at h
      refine lv_aload_n hx hb dX6_placeOf_12 rfl (lv_at hl 0 rfl) ?_
      refine bw_get S hK hI 0 0 rfl rfl (by decide) i_X6 f_X6_7 rfl dX6_placeOf_13 ?_
      refine lv_iload_n hx hb dX6_placeOf_16 rfl (lv_at hl 3 rfl) ?_
      obtain ⟨r17, hc, h⟩ := bw_b1_e h
      refine bw_callP S hK hZ hI (mX6_loanAt l G cy g x3 r17 hc) Y_X6_loanAt V_X6_loanAt l_X6_50 ⟨(Nat.le_of_ble_eq_true rfl), (Nat.le_of_ble_eq_true rfl)⟩ (rest := [.ref (a 1)]) (st1 := [.int r17, .ref (a 1)]) rfl hl.1 rfl rfl (Nat.le_of_ble_eq_true rfl) dX6_placeOf_17 ⟨Nat.le_refl _, Nat.le_refl _⟩ (fun H locs hI => ?_)
      obtain ⟨v20, hv, h⟩ := bw_b1_e h
      refine bw_iald hx hb hK hI 1 hv rfl dX6_placeOf_20 ?_
      refine lv_iload_n hx hb dX6_placeOf_21 rfl (lv_at hl 1 rfl) ?_
      refine lv_icmp_ne (tgt := 42) hx hb dX6_placeOf_22 (by decide) (fun c_22 => ?_) (fun c_22 => ?_)
      · rw [if_neg c_22] at h
        exact j42 x1 x2 x3 (lX6_placeOf_2 z x1 x2 n) ih _ _ _ h hI (lv_sub hl [0,1,2,3] rfl)
      rw [if_pos c_22] at h
      refine lv_aload_n hx hb dX6_placeOf_25 rfl (lv_at hl 0 rfl) ?_
      refine bw_get S hK hI 0 0 rfl rfl (by decide) i_X6 f_X6_7 rfl dX6_placeOf_26 ?_
      refine lv_iload_n hx hb dX6_placeOf_29 rfl (lv_at hl 3 rfl) ?_
      obtain ⟨r30, hc, h⟩ := bw_b1_e h
      refine bw_callP S hK hZ hI (mX6_loanAt l G cy g x3 r30 hc) Y_X6_loanAt V_X6_loanAt l_X6_50 ⟨(Nat.le_of_ble_eq_true rfl), (Nat.le_of_ble_eq_true rfl)⟩ (rest := [.ref (a 1)]) (st1 := [.int r30, .ref (a 1)]) rfl hl.1 rfl rfl (Nat.le_of_ble_eq_true rfl) dX6_placeOf_30 ⟨Nat.le_refl _, Nat.le_refl _⟩ (fun H locs hI => ?_)
      refine lv_iconst (v := 1) hx hb dX6_placeOf_33 rfl ?_
      refine lv_iadd hx hb dX6_placeOf_34 ?_
      obtain ⟨v35, hv, h⟩ := bw_b1_e h
      refine bw_iald hx hb hK hI 1 hv rfl dX6_placeOf_35 ?_
      refine lv_iload_n hx hb dX6_placeOf_36 rfl (lv_at hl 2 rfl) ?_
      refine lv_icmp_ne (tgt := 42) hx hb dX6_placeOf_37 (by decide) (fun c_37 => ?_) (fun c_37 => ?_)
      · rw [if_neg c_37] at h
        exact j42 x1 x2 x3 (lX6_placeOf_2 z x1 x2 n) ih _ _ _ h hI (lv_sub hl [0,1,2,3] rfl)
      rw [if_pos c_37] at h
      refine lv_iload_n hx hb dX6_placeOf_40 rfl (lv_at hl 3 rfl) ?_
      subst hQ
      exact bw_iretP S hr hlocks h hI rfl dX6_placeOf_41
  unfold fX6_placeOf at h
  refine lv_iconst (v := 0) hx hb dX6_placeOf_0 rfl ?_
  refine lv_istore_n (lv' := [(3, .int 0), (0, .ref (a 0)), (1, .int p1), (2, .int p2)]) hx hb dX6_placeOf_1 rfl hl (by decide) rfl (fun ls hl => ?_)
  exact l2 p1 p2 bw_fu _ _ _ 0 h hI (lv_sub hl [1,2,3,0] rfl)
set_option maxHeartbeats 4000000 in
set_option maxRecDepth 100000 in
theorem mX6_owedOf (l : Launch) (G : va_G) (cy : Nat → ClassId) (g : Nat) (a : Nat → Nat) (z : bw_A1) (rows : bw_A1) (asd : bw_A1) (sm : Int32) (buf : bw_A1) (bm : Int32) (th : Int32) (od : bw_A1) (om : Int32) (ow : Int32) (ca : Int32) (bo : Int32) (la : Int32) (pl : Int32) (to : Int32) (rd : bw_A1) (hh : Int64) (p1 : Int32) (p2 : Int32) (r : Int32) (h : fX6_owedOf z p1 p2 = some r) : bw_M l yX6_owedOf cX6_owedOf 4 (some .int) 2 43 G cy g [.ref (a 0), .int p1, .int p2] (bw_mW cy a z rows asd sm buf bm th od om ow ca bo la pl to rd hh) (some (.int r)) (bw_mW cy a z rows asd sm buf bm th od om ow ca bo la pl to rd hh) := by
  refine bw_ofW (by decide +kernel) RX6 rfl (Nat.le_of_ble_eq_true rfl) ?_
  intro p e s m below meth c ls S hr hlocks hK hZ hI hl
  have hx := S.1
  have hb := S.2.1
  have hown := S.2.2.2.1
  have hts := S.2.2.2.2
  generalize va_A _ s.heap.size = A at hI hZ ⊢
  generalize hQ : MQ below _ _ s 0 0 A = Q
  have hl : lv_has ls 4 [(0, .ref (a 0)), (1, .int p1), (2, .int p2)] := hl
  unfold fX6_owedOf at h
  refine lv_aload_n hx hb dX6_owedOf_0 rfl (lv_at hl 0 rfl) ?_
  refine lv_iload_n hx hb dX6_owedOf_1 rfl (lv_at hl 2 rfl) ?_
  refine lv_iload_n hx hb dX6_owedOf_2 rfl (lv_at hl 1 rfl) ?_
  obtain ⟨r3, hc, h⟩ := bw_b1_e h
  refine bw_callV S hK hZ hI (mX6_placeOf l G cy g a z rows asd sm buf bm th od om ow ca bo la pl to rd hh p2 p1 r3 hc) Y_X6_placeOf V_X6_placeOf l_X6_53 ⟨(Nat.le_of_ble_eq_true rfl), (Nat.le_of_ble_eq_true rfl)⟩ (q0 := 0) rfl rfl rfl (ws' := (bw_mW cy a z rows asd sm buf bm th od om ow ca bo la pl to rd hh)) (bw_pS _) (bw_pS' _) rfl rfl hl.1 (rest := []) (st1 := [.int r3]) rfl rfl (Nat.le_of_ble_eq_true rfl) dX6_owedOf_3 ⟨Nat.le_refl _, Nat.le_refl _⟩ (fun H locs hI => ?_)
  refine lv_istore_n (lv' := [(3, .int r3), (0, .ref (a 0)), (1, .int p1), (2, .int p2)]) hx hb dX6_owedOf_6 rfl hl (by decide) rfl (fun ls hl => ?_)
  refine lv_iload_n hx hb dX6_owedOf_7 rfl (lv_at hl 0 rfl) ?_
  refine lv_iconst (v := (-1)) hx hb dX6_owedOf_8 rfl ?_
  refine lv_icmp_ne (tgt := 16) hx hb dX6_owedOf_9 (by decide) (fun c_9 => ?_) (fun c_9 => ?_)
  · rw [if_neg c_9] at h
    refine lv_aload_n hx hb dX6_owedOf_16 rfl (lv_at hl 1 rfl) ?_
    refine bw_get S hK hI 0 0 rfl rfl (by decide) i_X6 f_X6_7 rfl dX6_owedOf_17 ?_
    refine lv_iload_n hx hb dX6_owedOf_20 rfl (lv_at hl 0 rfl) ?_
    obtain ⟨r21, hc, h⟩ := bw_b1_e h
    refine bw_callP S hK hZ hI (mX6_loanAt l G cy g r3 r21 hc) Y_X6_loanAt V_X6_loanAt l_X6_50 ⟨(Nat.le_of_ble_eq_true rfl), (Nat.le_of_ble_eq_true rfl)⟩ (rest := [.ref (a 1)]) (st1 := [.int r21, .ref (a 1)]) rfl hl.1 rfl rfl (Nat.le_of_ble_eq_true rfl) dX6_owedOf_21 ⟨Nat.le_refl _, Nat.le_refl _⟩ (fun H locs hI => ?_)
    refine lv_iconst (v := 2) hx hb dX6_owedOf_24 rfl ?_
    refine lv_iadd hx hb dX6_owedOf_25 ?_
    obtain ⟨v26, hv, h⟩ := bw_b1_e h
    refine bw_iald hx hb hK hI 1 hv rfl dX6_owedOf_26 ?_
    subst hQ
    exact bw_iretP S hr hlocks h hI rfl dX6_owedOf_27
  rw [if_pos c_9] at h
  refine lv_iconst (v := 0) hx hb dX6_owedOf_12 rfl ?_
  refine lv_goto (tgt := 27) hx hb dX6_owedOf_13 (by decide) ?_
  subst hQ
  exact bw_iretP S hr hlocks h hI rfl dX6_owedOf_27
set_option maxHeartbeats 4000000 in
set_option maxRecDepth 100000 in
theorem mX6_dropLoan (l : Launch) (G : va_G) (cy : Nat → ClassId) (g : Nat) (a : Nat → Nat) (z : bw_A1) (rows : bw_A1) (asd : bw_A1) (sm : Int32) (buf : bw_A1) (bm : Int32) (th : Int32) (od : bw_A1) (om : Int32) (ow : Int32) (ca : Int32) (bo : Int32) (la : Int32) (pl : Int32) (to : Int32) (rd : bw_A1) (hh : Int64) (p1 : Int32) (z' : bw_A1) (h : fX6_dropLoan z p1 = some z') : bw_M l yX6_dropLoan cX6_dropLoan 3 none 1 20 G cy g [.ref (a 0), .int p1] (bw_mW cy a z rows asd sm buf bm th od om ow ca bo la pl to rd hh) none (bw_mW cy a z' rows asd sm buf bm th od om ow ca bo la pl to rd hh) := by
  refine bw_ofW (by decide +kernel) RX6 rfl (Nat.le_of_ble_eq_true rfl) ?_
  intro p e s m below meth c ls S hr hlocks hK hZ hI hl
  have hx := S.1
  have hb := S.2.1
  have hown := S.2.2.2.1
  have hts := S.2.2.2.2
  generalize va_A _ s.heap.size = A at hI hZ ⊢
  generalize hQ : MQ below _ _ s 0 0 A = Q
  have hl : lv_has ls 3 [(0, .ref (a 0)), (1, .int p1)] := hl
  have l15 : ∀  (n : Nat) (H : Heap) (locs : List Loc) (ls : Array Slot) (z : bw_A1) (x2 : Int32), lX6_dropLoan_15  n z x2 = some z' → bw_I G A s.heap (bw_mW cy a z rows asd sm buf bm th od om ow ca bo la pl to rd hh) H locs → lv_has ls 3 [(0, .ref (a 0)), (2, .int x2)] → W p l e (bw_rm 1 20) s m [.ref (a 0), .int p1].toArray below meth c H locs 0 0 Q (F0 m 15 ls []) := by
    intro  n
    induction n with
    | zero => intro H locs ls z x2 h; exact bw_none h
    | succ n ih =>
      intro H locs ls z x2 h hI hl
      have h : bX6_dropLoan_15  (lX6_dropLoan_15  n)  z x2 = some z' := h
      unfold bX6_dropLoan_15 at h
      refine lv_iload_n hx hb dX6_dropLoan_15 rfl (lv_at hl 1 rfl) ?_
      refine lv_aload_n hx hb dX6_dropLoan_16 rfl (lv_at hl 0 rfl) ?_
      refine bw_get S hK hI 0 0 rfl rfl (by decide) i_X6 f_X6_7 rfl dX6_dropLoan_17 ?_
      refine lv_iconst (v := 1) hx hb dX6_dropLoan_20 rfl ?_
      obtain ⟨v21, hv, h⟩ := bw_b1_e h
      refine bw_iald hx hb hK hI 1 hv rfl dX6_dropLoan_21 ?_
      obtain ⟨r22, hc, h⟩ := bw_b1_e h
      refine bw_callP S hK hZ hI (mX6_loanAt l G cy g v21 r22 hc) Y_X6_loanAt V_X6_loanAt l_X6_50 ⟨(Nat.le_of_ble_eq_true rfl), (Nat.le_of_ble_eq_true rfl)⟩ (rest := [.int x2]) (st1 := [.int r22, .int x2]) rfl hl.1 rfl rfl (Nat.le_of_ble_eq_true rfl) dX6_dropLoan_22 ⟨Nat.le_refl _, Nat.le_refl _⟩ (fun H locs hI => ?_)
      refine lv_icmp_ge (tgt := 48) hx hb dX6_dropLoan_25 (by decide) (fun c_25 => ?_) (fun c_25 => ?_)
      · rw [if_pos c_25] at h
        subst hQ
        exact bw_vret S hr hlocks h (fun q : bw_A1 => (bw_mW cy a q rows asd sm buf bm th od om ow ca bo la pl to rd hh)) hI dX6_dropLoan_48
      rw [if_neg c_25] at h
      refine lv_aload_n hx hb dX6_dropLoan_28 rfl (lv_at hl 0 rfl) ?_
      refine bw_get S hK hI 0 0 rfl rfl (by decide) i_X6 f_X6_7 rfl dX6_dropLoan_29 ?_
      refine lv_iload_n hx hb dX6_dropLoan_32 rfl (lv_at hl 1 rfl) ?_
      refine lv_aload_n hx hb dX6_dropLoan_33 rfl (lv_at hl 0 rfl) ?_
      refine bw_get S hK hI 0 0 rfl rfl (by decide) i_X6 f_X6_7 rfl dX6_dropLoan_34 ?_
      refine lv_iload_n hx hb dX6_dropLoan_37 rfl (lv_at hl 1 rfl) ?_
      refine lv_iconst (v := 3) hx hb dX6_dropLoan_38 rfl ?_
      refine lv_iadd hx hb dX6_dropLoan_39 ?_
      obtain ⟨v40, hv, h⟩ := bw_b1_e h
      refine bw_iald hx hb hK hI 1 hv rfl dX6_dropLoan_40 ?_
      obtain ⟨z_41, hv, h⟩ := bw_b1_e h
      refine bw_iast hx hb hK hI 1 (ws' := (bw_mW cy a z_41 rows asd sm buf bm th od om ow ca bo la pl to rd hh)) hv rfl rfl dX6_dropLoan_41 (fun H locs hI => ?_)
      obtain ⟨x2_42, e_42⟩ : ∃ y : Int32, y = x2 + 1 := ⟨_, rfl⟩
      have h := bw_let_e h e_42
      refine lv_iinc (v := x2_42) (lv' := [(2, .int x2_42), (0, .ref (a 0))]) hx hb dX6_dropLoan_42 hl (k := 1) rfl (by rw [e_42]; rfl) (by decide) rfl (fun ls hl => ?_)
      clear e_42
      refine lv_goto (tgt := 15) hx hb dX6_dropLoan_45 (by decide) ?_
      exact ih _ _ _ z_41 x2_42 h hI (lv_sub hl [1,0] rfl)
  unfold fX6_dropLoan at h
  refine lv_aload_n hx hb dX6_dropLoan_0 rfl (lv_at hl 0 rfl) ?_
  refine bw_get S hK hI 0 0 rfl rfl (by decide) i_X6 f_X6_7 rfl dX6_dropLoan_1 ?_
  refine lv_iconst (v := 1) hx hb dX6_dropLoan_4 rfl ?_
  refine lv_dup2_11 hx hb dX6_dropLoan_5 rfl rfl ?_
  obtain ⟨v6, hv, h⟩ := bw_b1_e h
  refine bw_iald hx hb hK hI 1 hv rfl dX6_dropLoan_6 ?_
  refine lv_iconst (v := 1) hx hb dX6_dropLoan_7 rfl ?_
  refine lv_isub hx hb dX6_dropLoan_8 ?_
  obtain ⟨z_9, hv, h⟩ := bw_b1_e h
  refine bw_iast hx hb hK hI 1 (ws' := (bw_mW cy a z_9 rows asd sm buf bm th od om ow ca bo la pl to rd hh)) hv rfl rfl dX6_dropLoan_9 (fun H locs hI => ?_)
  refine lv_iload_n hx hb dX6_dropLoan_10 rfl (lv_at hl 1 rfl) ?_
  obtain ⟨r11, hc, h⟩ := bw_b1_e h
  refine bw_callP S hK hZ hI (mX6_loanAt l G cy g p1 r11 hc) Y_X6_loanAt V_X6_loanAt l_X6_50 ⟨(Nat.le_of_ble_eq_true rfl), (Nat.le_of_ble_eq_true rfl)⟩ (rest := []) (st1 := [.int r11]) rfl hl.1 rfl rfl (Nat.le_of_ble_eq_true rfl) dX6_dropLoan_11 ⟨Nat.le_refl _, Nat.le_refl _⟩ (fun H locs hI => ?_)
  refine lv_istore_n (lv' := [(2, .int r11), (0, .ref (a 0)), (1, .int p1)]) hx hb dX6_dropLoan_14 rfl hl (by decide) rfl (fun ls hl => ?_)
  exact l15  bw_fu _ _ _ z_9 r11 h hI (lv_sub hl [1,0] rfl)
set_option maxHeartbeats 4000000 in
set_option maxRecDepth 100000 in
theorem mX6_addLoan (l : Launch) (G : va_G) (cy : Nat → ClassId) (g : Nat) (a : Nat → Nat) (z : bw_A1) (rows : bw_A1) (asd : bw_A1) (sm : Int32) (buf : bw_A1) (bm : Int32) (th : Int32) (od : bw_A1) (om : Int32) (ow : Int32) (ca : Int32) (bo : Int32) (la : Int32) (pl : Int32) (to : Int32) (rd : bw_A1) (hh : Int64) (p1 : Int32) (p2 : Int32) (p3 : Int32) (z' : bw_A1) (h : fX6_addLoan z p1 p2 p3 = some z') : bw_M l yX6_addLoan cX6_addLoan 5 none 2 43 G cy g [.ref (a 0), .int p1, .int p2, .int p3] (bw_mW cy a z rows asd sm buf bm th od om ow ca bo la pl to rd hh) none (bw_mW cy a z' rows asd sm buf bm th od om ow ca bo la pl to rd hh) := by
  refine bw_ofW (by decide +kernel) RX6 rfl (Nat.le_of_ble_eq_true rfl) ?_
  intro p e s m below meth c ls S hr hlocks hK hZ hI hl
  have hx := S.1
  have hb := S.2.1
  have hown := S.2.2.2.1
  have hts := S.2.2.2.2
  generalize va_A _ s.heap.size = A at hI hZ ⊢
  generalize hQ : MQ below _ _ s 0 0 A = Q
  have hl : lv_has ls 5 [(0, .ref (a 0)), (1, .int p1), (2, .int p2), (3, .int p3)] := hl
  have j69 : ∀ (z : bw_A1) (x3 : Int32) (x4 : Int32) (H : Heap) (locs : List Loc) (ls : Array Slot), jX6_addLoan_69 z x3 x4 = some z' → bw_I G A s.heap (bw_mW cy a z rows asd sm buf bm th od om ow ca bo la pl to rd hh) H locs → lv_has ls 5 [(0, .ref (a 0)), (3, .int x3), (4, .int x4)] → W p l e (bw_rm 2 43) s m [.ref (a 0), .int p1, .int p2, .int p3].toArray below meth c H locs 0 0 Q (F0 m 69 ls []) := by
    intro z x3 x4 H locs ls h hI hl
    unfold jX6_addLoan_69 at h
    refine lv_aload_n hx hb dX6_addLoan_69 rfl (lv_at hl 0 rfl) ?_
    refine bw_get S hK hI 0 0 rfl rfl (by decide) i_X6 f_X6_7 rfl dX6_addLoan_70 ?_
    refine lv_iload hx hb dX6_addLoan_73 (lv_at hl 2 rfl) ?_
    obtain ⟨r75, hc, h⟩ := bw_b1_e h
    refine bw_callP S hK hZ hI (mX6_loanAt l G cy g x4 r75 hc) Y_X6_loanAt V_X6_loanAt l_X6_50 ⟨(Nat.le_of_ble_eq_true rfl), (Nat.le_of_ble_eq_true rfl)⟩ (rest := [.ref (a 1)]) (st1 := [.int r75, .ref (a 1)]) rfl hl.1 rfl rfl (Nat.le_of_ble_eq_true rfl) dX6_addLoan_75 ⟨Nat.le_refl _, Nat.le_refl _⟩ (fun H locs hI => ?_)
    refine lv_iconst (v := 2) hx hb dX6_addLoan_78 rfl ?_
    refine lv_iadd hx hb dX6_addLoan_79 ?_
    refine lv_dup2_11 hx hb dX6_addLoan_80 rfl rfl ?_
    obtain ⟨v81, hv, h⟩ := bw_b1_e h
    refine bw_iald hx hb hK hI 1 hv rfl dX6_addLoan_81 ?_
    refine lv_iload_n hx hb dX6_addLoan_82 rfl (lv_at hl 1 rfl) ?_
    refine lv_iadd hx hb dX6_addLoan_83 ?_
    obtain ⟨z_84, hv, h⟩ := bw_b1_e h
    refine bw_iast hx hb hK hI 1 (ws' := (bw_mW cy a z_84 rows asd sm buf bm th od om ow ca bo la pl to rd hh)) hv rfl rfl dX6_addLoan_84 (fun H locs hI => ?_)
    subst hQ
    exact bw_vret S hr hlocks h (fun q : bw_A1 => (bw_mW cy a q rows asd sm buf bm th od om ow ca bo la pl to rd hh)) hI dX6_addLoan_85
  unfold fX6_addLoan at h
  refine lv_aload_n hx hb dX6_addLoan_0 rfl (lv_at hl 0 rfl) ?_
  refine lv_iload_n hx hb dX6_addLoan_1 rfl (lv_at hl 1 rfl) ?_
  refine lv_iload_n hx hb dX6_addLoan_2 rfl (lv_at hl 2 rfl) ?_
  obtain ⟨r3, hc, h⟩ := bw_b1_e h
  refine bw_callV S hK hZ hI (mX6_placeOf l G cy g a z rows asd sm buf bm th od om ow ca bo la pl to rd hh p1 p2 r3 hc) Y_X6_placeOf V_X6_placeOf l_X6_53 ⟨(Nat.le_of_ble_eq_true rfl), (Nat.le_of_ble_eq_true rfl)⟩ (q0 := 0) rfl rfl rfl (ws' := (bw_mW cy a z rows asd sm buf bm th od om ow ca bo la pl to rd hh)) (bw_pS _) (bw_pS' _) rfl rfl hl.1 (rest := []) (st1 := [.int r3]) rfl rfl (Nat.le_of_ble_eq_true rfl) dX6_addLoan_3 ⟨Nat.le_refl _, Nat.le_refl _⟩ (fun H locs hI => ?_)
  refine lv_istore (lv' := [(4, .int r3), (0, .ref (a 0)), (1, .int p1), (2, .int p2), (3, .int p3)]) hx hb dX6_addLoan_6 hl (by decide) rfl (fun ls hl => ?_)
  refine lv_iload hx hb dX6_addLoan_8 (lv_at hl 0 rfl) ?_
  refine lv_iconst (v := (-1)) hx hb dX6_addLoan_10 rfl ?_
  refine lv_icmp_ne (tgt := 69) hx hb dX6_addLoan_11 (by decide) (fun c_11 => ?_) (fun c_11 => ?_)
  · rw [if_neg c_11] at h
    exact j69 z p3 r3 _ _ _ h hI (lv_sub hl [1,4,0] rfl)
  rw [if_pos c_11] at h
  refine lv_aload_n hx hb dX6_addLoan_14 rfl (lv_at hl 1 rfl) ?_
  refine bw_get S hK hI 0 0 rfl rfl (by decide) i_X6 f_X6_7 rfl dX6_addLoan_15 ?_
  refine lv_iconst (v := 1) hx hb dX6_addLoan_18 rfl ?_
  obtain ⟨v19, hv, h⟩ := bw_b1_e h
  refine bw_iald hx hb hK hI 1 hv rfl dX6_addLoan_19 ?_
  refine lv_istore (lv' := [(4, .int v19), (0, .ref (a 0)), (1, .int p1), (2, .int p2), (3, .int p3)]) hx hb dX6_addLoan_20 hl (by decide) rfl (fun ls hl => ?_)
  refine lv_aload_n hx hb dX6_addLoan_22 rfl (lv_at hl 1 rfl) ?_
  refine bw_get S hK hI 0 0 rfl rfl (by decide) i_X6 f_X6_7 rfl dX6_addLoan_23 ?_
  refine lv_iload hx hb dX6_addLoan_26 (lv_at hl 0 rfl) ?_
  obtain ⟨r28, hc, h⟩ := bw_b1_e h
  refine bw_callP S hK hZ hI (mX6_loanAt l G cy g v19 r28 hc) Y_X6_loanAt V_X6_loanAt l_X6_50 ⟨(Nat.le_of_ble_eq_true rfl), (Nat.le_of_ble_eq_true rfl)⟩ (rest := [.ref (a 1)]) (st1 := [.int r28, .ref (a 1)]) rfl hl.1 rfl rfl (Nat.le_of_ble_eq_true rfl) dX6_addLoan_28 ⟨Nat.le_refl _, Nat.le_refl _⟩ (fun H locs hI => ?_)
  refine lv_iload_n hx hb dX6_addLoan_31 rfl (lv_at hl 2 rfl) ?_
  obtain ⟨z_32, hv, h⟩ := bw_b1_e h
  refine bw_iast hx hb hK hI 1 (ws' := (bw_mW cy a z_32 rows asd sm buf bm th od om ow ca bo la pl to rd hh)) hv rfl rfl dX6_addLoan_32 (fun H locs hI => ?_)
  refine lv_aload_n hx hb dX6_addLoan_33 rfl (lv_at hl 1 rfl) ?_
  refine bw_get S hK hI 0 0 rfl rfl (by decide) i_X6 f_X6_7 rfl dX6_addLoan_34 ?_
  refine lv_iload hx hb dX6_addLoan_37 (lv_at hl 0 rfl) ?_
  obtain ⟨r39, hc, h⟩ := bw_b1_e h
  refine bw_callP S hK hZ hI (mX6_loanAt l G cy g v19 r39 hc) Y_X6_loanAt V_X6_loanAt l_X6_50 ⟨(Nat.le_of_ble_eq_true rfl), (Nat.le_of_ble_eq_true rfl)⟩ (rest := [.ref (a 1)]) (st1 := [.int r39, .ref (a 1)]) rfl hl.1 rfl rfl (Nat.le_of_ble_eq_true rfl) dX6_addLoan_39 ⟨Nat.le_refl _, Nat.le_refl _⟩ (fun H locs hI => ?_)
  refine lv_iconst (v := 1) hx hb dX6_addLoan_42 rfl ?_
  refine lv_iadd hx hb dX6_addLoan_43 ?_
  refine lv_iload_n hx hb dX6_addLoan_44 rfl (lv_at hl 3 rfl) ?_
  obtain ⟨z_45, hv, h⟩ := bw_b1_e h
  refine bw_iast hx hb hK hI 1 (ws' := (bw_mW cy a z_45 rows asd sm buf bm th od om ow ca bo la pl to rd hh)) hv rfl rfl dX6_addLoan_45 (fun H locs hI => ?_)
  refine lv_aload_n hx hb dX6_addLoan_46 rfl (lv_at hl 1 rfl) ?_
  refine bw_get S hK hI 0 0 rfl rfl (by decide) i_X6 f_X6_7 rfl dX6_addLoan_47 ?_
  refine lv_iload hx hb dX6_addLoan_50 (lv_at hl 0 rfl) ?_
  obtain ⟨r52, hc, h⟩ := bw_b1_e h
  refine bw_callP S hK hZ hI (mX6_loanAt l G cy g v19 r52 hc) Y_X6_loanAt V_X6_loanAt l_X6_50 ⟨(Nat.le_of_ble_eq_true rfl), (Nat.le_of_ble_eq_true rfl)⟩ (rest := [.ref (a 1)]) (st1 := [.int r52, .ref (a 1)]) rfl hl.1 rfl rfl (Nat.le_of_ble_eq_true rfl) dX6_addLoan_52 ⟨Nat.le_refl _, Nat.le_refl _⟩ (fun H locs hI => ?_)
  refine lv_iconst (v := 2) hx hb dX6_addLoan_55 rfl ?_
  refine lv_iadd hx hb dX6_addLoan_56 ?_
  refine lv_iconst (v := 0) hx hb dX6_addLoan_57 rfl ?_
  obtain ⟨z_58, hv, h⟩ := bw_b1_e h
  refine bw_iast hx hb hK hI 1 (ws' := (bw_mW cy a z_58 rows asd sm buf bm th od om ow ca bo la pl to rd hh)) hv rfl rfl dX6_addLoan_58 (fun H locs hI => ?_)
  refine lv_aload_n hx hb dX6_addLoan_59 rfl (lv_at hl 1 rfl) ?_
  refine bw_get S hK hI 0 0 rfl rfl (by decide) i_X6 f_X6_7 rfl dX6_addLoan_60 ?_
  refine lv_iconst (v := 1) hx hb dX6_addLoan_63 rfl ?_
  refine lv_dup2_11 hx hb dX6_addLoan_64 rfl rfl ?_
  obtain ⟨v65, hv, h⟩ := bw_b1_e h
  refine bw_iald hx hb hK hI 1 hv rfl dX6_addLoan_65 ?_
  refine lv_iconst (v := 1) hx hb dX6_addLoan_66 rfl ?_
  refine lv_iadd hx hb dX6_addLoan_67 ?_
  obtain ⟨z_68, hv, h⟩ := bw_b1_e h
  refine bw_iast hx hb hK hI 1 (ws' := (bw_mW cy a z_68 rows asd sm buf bm th od om ow ca bo la pl to rd hh)) hv rfl rfl dX6_addLoan_68 (fun H locs hI => ?_)
  exact j69 z_68 p3 v19 _ _ _ h hI (lv_sub hl [1,4,0] rfl)
set_option maxHeartbeats 4000000 in
set_option maxRecDepth 100000 in
theorem mX6_cutLoan (l : Launch) (G : va_G) (cy : Nat → ClassId) (g : Nat) (a : Nat → Nat) (z : bw_A1) (rows : bw_A1) (asd : bw_A1) (sm : Int32) (buf : bw_A1) (bm : Int32) (th : Int32) (od : bw_A1) (om : Int32) (ow : Int32) (ca : Int32) (bo : Int32) (la : Int32) (pl : Int32) (to : Int32) (rd : bw_A1) (hh : Int64) (p1 : Int32) (p2 : Int32) (z' : bw_A1) (h : fX6_cutLoan z p1 p2 = some z') : bw_M l yX6_cutLoan cX6_cutLoan 3 none 2 42 G cy g [.ref (a 0), .int p1, .int p2] (bw_mW cy a z rows asd sm buf bm th od om ow ca bo la pl to rd hh) none (bw_mW cy a z' rows asd sm buf bm th od om ow ca bo la pl to rd hh) := by
  refine bw_ofW (by decide +kernel) RX6 rfl (Nat.le_of_ble_eq_true rfl) ?_
  intro p e s m below meth c ls S hr hlocks hK hZ hI hl
  have hx := S.1
  have hb := S.2.1
  have hown := S.2.2.2.1
  have hts := S.2.2.2.2
  generalize va_A _ s.heap.size = A at hI hZ ⊢
  generalize hQ : MQ below _ _ s 0 0 A = Q
  have hl : lv_has ls 3 [(0, .ref (a 0)), (1, .int p1), (2, .int p2)] := hl
  unfold fX6_cutLoan at h
  refine lv_aload_n hx hb dX6_cutLoan_0 rfl (lv_at hl 0 rfl) ?_
  refine bw_get S hK hI 0 0 rfl rfl (by decide) i_X6 f_X6_7 rfl dX6_cutLoan_1 ?_
  refine lv_iload_n hx hb dX6_cutLoan_4 rfl (lv_at hl 1 rfl) ?_
  obtain ⟨r5, hc, h⟩ := bw_b1_e h
  refine bw_callP S hK hZ hI (mX6_loanAt l G cy g p1 r5 hc) Y_X6_loanAt V_X6_loanAt l_X6_50 ⟨(Nat.le_of_ble_eq_true rfl), (Nat.le_of_ble_eq_true rfl)⟩ (rest := [.ref (a 1)]) (st1 := [.int r5, .ref (a 1)]) rfl hl.1 rfl rfl (Nat.le_of_ble_eq_true rfl) dX6_cutLoan_5 ⟨Nat.le_refl _, Nat.le_refl _⟩ (fun H locs hI => ?_)
  refine lv_iconst (v := 2) hx hb dX6_cutLoan_8 rfl ?_
  refine lv_iadd hx hb dX6_cutLoan_9 ?_
  refine lv_dup2_11 hx hb dX6_cutLoan_10 rfl rfl ?_
  obtain ⟨v11, hv, h⟩ := bw_b1_e h
  refine bw_iald hx hb hK hI 1 hv rfl dX6_cutLoan_11 ?_
  refine lv_iload_n hx hb dX6_cutLoan_12 rfl (lv_at hl 2 rfl) ?_
  refine lv_isub hx hb dX6_cutLoan_13 ?_
  obtain ⟨z_14, hv, h⟩ := bw_b1_e h
  refine bw_iast hx hb hK hI 1 (ws' := (bw_mW cy a z_14 rows asd sm buf bm th od om ow ca bo la pl to rd hh)) hv rfl rfl dX6_cutLoan_14 (fun H locs hI => ?_)
  refine lv_aload_n hx hb dX6_cutLoan_15 rfl (lv_at hl 0 rfl) ?_
  refine bw_get S hK hI 0 0 rfl rfl (by decide) i_X6 f_X6_7 rfl dX6_cutLoan_16 ?_
  refine lv_iload_n hx hb dX6_cutLoan_19 rfl (lv_at hl 1 rfl) ?_
  obtain ⟨r20, hc, h⟩ := bw_b1_e h
  refine bw_callP S hK hZ hI (mX6_loanAt l G cy g p1 r20 hc) Y_X6_loanAt V_X6_loanAt l_X6_50 ⟨(Nat.le_of_ble_eq_true rfl), (Nat.le_of_ble_eq_true rfl)⟩ (rest := [.ref (a 1)]) (st1 := [.int r20, .ref (a 1)]) rfl hl.1 rfl rfl (Nat.le_of_ble_eq_true rfl) dX6_cutLoan_20 ⟨Nat.le_refl _, Nat.le_refl _⟩ (fun H locs hI => ?_)
  refine lv_iconst (v := 2) hx hb dX6_cutLoan_23 rfl ?_
  refine lv_iadd hx hb dX6_cutLoan_24 ?_
  obtain ⟨v25, hv, h⟩ := bw_b1_e h
  refine bw_iald hx hb hK hI 1 hv rfl dX6_cutLoan_25 ?_
  refine lv_if_ne (tgt := 34) hx hb dX6_cutLoan_26 (by decide) (fun c_26 => ?_) (fun c_26 => ?_)
  · rw [if_neg c_26] at h
    subst hQ
    exact bw_vret S hr hlocks h (fun q : bw_A1 => (bw_mW cy a q rows asd sm buf bm th od om ow ca bo la pl to rd hh)) hI dX6_cutLoan_34
  rw [if_pos c_26] at h
  refine lv_aload_n hx hb dX6_cutLoan_29 rfl (lv_at hl 0 rfl) ?_
  refine lv_iload_n hx hb dX6_cutLoan_30 rfl (lv_at hl 1 rfl) ?_
  obtain ⟨z_31, hc, h⟩ := bw_b1_e h
  refine bw_callV S hK hZ hI (mX6_dropLoan l G cy g a z_14 rows asd sm buf bm th od om ow ca bo la pl to rd hh p1 z_31 hc) Y_X6_dropLoan V_X6_dropLoan l_X6_57 ⟨(Nat.le_of_ble_eq_true rfl), (Nat.le_of_ble_eq_true rfl)⟩ (q0 := 0) rfl rfl rfl (ws' := (bw_mW cy a z_31 rows asd sm buf bm th od om ow ca bo la pl to rd hh)) (bw_pS _) (bw_pS' _) rfl rfl hl.1 (rest := []) (st1 := []) rfl rfl (Nat.le_of_ble_eq_true rfl) dX6_cutLoan_31 ⟨Nat.le_refl _, Nat.le_refl _⟩ (fun H locs hI => ?_)
  subst hQ
  exact bw_vret S hr hlocks h (fun q : bw_A1 => (bw_mW cy a q rows asd sm buf bm th od om ow ca bo la pl to rd hh)) hI dX6_cutLoan_34
set_option maxHeartbeats 4000000 in
set_option maxRecDepth 100000 in
theorem mX6_payAll (l : Launch) (G : va_G) (cy : Nat → ClassId) (g : Nat) (a : Nat → Nat) (z : bw_A1) (rows : bw_A1) (asd : bw_A1) (sm : Int32) (buf : bw_A1) (bm : Int32) (th : Int32) (od : bw_A1) (om : Int32) (ow : Int32) (ca : Int32) (bo : Int32) (la : Int32) (pl : Int32) (to : Int32) (rd : bw_A1) (hh : Int64) (p1 : Int32) (p2 : Int32) (z' : bw_A1) (h : fX6_payAll z p1 p2 = some z') : bw_M l yX6_payAll cX6_payAll 7 none 3 64 G cy g [.ref (a 0), .int p1, .int p2] (bw_mW cy a z rows asd sm buf bm th od om ow ca bo la pl to rd hh) none (bw_mW cy a z' rows asd sm buf bm th od om ow ca bo la pl to rd hh) := by
  refine bw_ofW (by decide +kernel) RX6 rfl (Nat.le_of_ble_eq_true rfl) ?_
  intro p e s m below meth c ls S hr hlocks hK hZ hI hl
  have hx := S.1
  have hb := S.2.1
  have hown := S.2.2.2.1
  have hts := S.2.2.2.2
  generalize va_A _ s.heap.size = A at hI hZ ⊢
  generalize hQ : MQ below _ _ s 0 0 A = Q
  have hl : lv_has ls 7 [(0, .ref (a 0)), (1, .int p1), (2, .int p2)] := hl
  have j158 : ∀ (z : bw_A1) (x1 : Int32) (x3 : Int32) (s0 : Int32) (s1 : Int32) (k19 : bw_A1 → Int32 → Int32 → Option bw_A1) (hk19 : ∀ (H : Heap) (locs : List Loc) (ls : Array Slot) (z_ : bw_A1) (x3_ : Int32) (x4_ : Int32), k19 z_ x3_ x4_ = some z' → bw_I G A s.heap (bw_mW cy a z_ rows asd sm buf bm th od om ow ca bo la pl to rd hh) H locs → lv_has ls 7 [(0, .ref (a 0)), (1, .int x1), (3, .int x3_), (4, .int x4_)] → W p l e (bw_rm 3 64) s m [.ref (a 0), .int p1, .int p2].toArray below meth c H locs 0 0 Q (F0 m 19 ls [])) (H : Heap) (locs : List Loc) (ls : Array Slot), jX6_payAll_158 k19 z x1 x3 s0 s1 = some z' → bw_I G A s.heap (bw_mW cy a z rows asd sm buf bm th od om ow ca bo la pl to rd hh) H locs → lv_has ls 7 [(0, .ref (a 0)), (1, .int x1), (3, .int x3)] → W p l e (bw_rm 3 64) s m [.ref (a 0), .int p1, .int p2].toArray below meth c H locs 0 0 Q (F0 m 158 ls [.int s0, .int s1]) := by
    intro z x1 x3 s0 s1 k19 hk19 H locs ls h hI hl
    unfold jX6_payAll_158 at h
    refine lv_iadd hx hb dX6_payAll_158 ?_
    refine lv_topi (fun x4_159 e_159 => ?_)
    have h := bw_let_e h e_159
    clear e_159
    refine lv_istore (lv' := [(4, .int x4_159), (0, .ref (a 0)), (1, .int x1), (3, .int x3)]) hx hb dX6_payAll_159 hl (by decide) rfl (fun ls hl => ?_)
    refine lv_goto (tgt := 19) hx hb dX6_payAll_161 (by decide) ?_
    exact hk19 _ _ _ z x3 x4_159 h hI (lv_sub hl [1,2,3,0] rfl)
  have j90 : ∀ (z : bw_A1) (x1 : Int32) (x3 : Int32) (x4 : Int32) (x5 : Int32) (s0 : Int32) (k19 : bw_A1 → Int32 → Int32 → Option bw_A1) (hk19 : ∀ (H : Heap) (locs : List Loc) (ls : Array Slot) (z_ : bw_A1) (x3_ : Int32) (x4_ : Int32), k19 z_ x3_ x4_ = some z' → bw_I G A s.heap (bw_mW cy a z_ rows asd sm buf bm th od om ow ca bo la pl to rd hh) H locs → lv_has ls 7 [(0, .ref (a 0)), (1, .int x1), (3, .int x3_), (4, .int x4_)] → W p l e (bw_rm 3 64) s m [.ref (a 0), .int p1, .int p2].toArray below meth c H locs 0 0 Q (F0 m 19 ls [])) (H : Heap) (locs : List Loc) (ls : Array Slot), jX6_payAll_90 k19 z x1 x3 x4 x5 s0 = some z' → bw_I G A s.heap (bw_mW cy a z rows asd sm buf bm th od om ow ca bo la pl to rd hh) H locs → lv_has ls 7 [(0, .ref (a 0)), (1, .int x1), (3, .int x3), (4, .int x4), (5, .int x5)] → W p l e (bw_rm 3 64) s m [.ref (a 0), .int p1, .int p2].toArray below meth c H locs 0 0 Q (F0 m 90 ls [.int s0]) := by
    intro z x1 x3 x4 x5 s0 k19 hk19 H locs ls h hI hl
    unfold jX6_payAll_90 at h
    refine lv_istore (lv' := [(6, .int s0), (0, .ref (a 0)), (1, .int x1), (3, .int x3), (4, .int x4), (5, .int x5)]) hx hb dX6_payAll_90 hl (by decide) rfl (fun ls hl => ?_)
    refine lv_aload_n hx hb dX6_payAll_92 rfl (lv_at hl 1 rfl) ?_
    refine bw_get S hK hI 0 0 rfl rfl (by decide) i_X6 f_X6_7 rfl dX6_payAll_93 ?_
    refine lv_iload_n hx hb dX6_payAll_96 rfl (lv_at hl 2 rfl) ?_
    obtain ⟨r97, hc, h⟩ := bw_b1_e h
    refine bw_callP S hK hZ hI (mX6_at l G cy g x1 r97 hc) Y_X6_at V_X6_at l_X6_39 ⟨(Nat.le_of_ble_eq_true rfl), (Nat.le_of_ble_eq_true rfl)⟩ (rest := [.ref (a 1)]) (st1 := [.int r97, .ref (a 1)]) rfl hl.1 rfl rfl (Nat.le_of_ble_eq_true rfl) dX6_payAll_97 ⟨Nat.le_refl _, Nat.le_refl _⟩ (fun H locs hI => ?_)
    refine lv_iconst (v := 2) hx hb dX6_payAll_100 rfl ?_
    refine lv_iadd hx hb dX6_payAll_101 ?_
    refine lv_dup2_11 hx hb dX6_payAll_102 rfl rfl ?_
    obtain ⟨v103, hv, h⟩ := bw_b1_e h
    refine bw_iald hx hb hK hI 1 hv rfl dX6_payAll_103 ?_
    refine lv_iload hx hb dX6_payAll_104 (lv_at hl 5 rfl) ?_
    refine lv_isub hx hb dX6_payAll_106 ?_
    obtain ⟨z_107, hv, h⟩ := bw_b1_e h
    refine bw_iast hx hb hK hI 1 (ws' := (bw_mW cy a z_107 rows asd sm buf bm th od om ow ca bo la pl to rd hh)) hv rfl rfl dX6_payAll_107 (fun H locs hI => ?_)
    refine lv_aload_n hx hb dX6_payAll_108 rfl (lv_at hl 1 rfl) ?_
    refine bw_get S hK hI 0 0 rfl rfl (by decide) i_X6 f_X6_7 rfl dX6_payAll_109 ?_
    refine lv_aload_n hx hb dX6_payAll_112 rfl (lv_at hl 1 rfl) ?_
    refine bw_get S hK hI 0 0 rfl rfl (by decide) i_X6 f_X6_7 rfl dX6_payAll_113 ?_
    refine lv_iload hx hb dX6_payAll_116 (lv_at hl 4 rfl) ?_
    obtain ⟨r118, hc, h⟩ := bw_b1_e h
    refine bw_callP S hK hZ hI (mX6_loanAt l G cy g x4 r118 hc) Y_X6_loanAt V_X6_loanAt l_X6_50 ⟨(Nat.le_of_ble_eq_true rfl), (Nat.le_of_ble_eq_true rfl)⟩ (rest := [.ref (a 1), .ref (a 1)]) (st1 := [.int r118, .ref (a 1), .ref (a 1)]) rfl hl.1 rfl rfl (Nat.le_of_ble_eq_true rfl) dX6_payAll_118 ⟨Nat.le_refl _, Nat.le_refl _⟩ (fun H locs hI => ?_)
    obtain ⟨v121, hv, h⟩ := bw_b1_e h
    refine bw_iald hx hb hK hI 1 hv rfl dX6_payAll_121 ?_
    obtain ⟨r122, hc, h⟩ := bw_b1_e h
    refine bw_callP S hK hZ hI (mX6_at l G cy g v121 r122 hc) Y_X6_at V_X6_at l_X6_39 ⟨(Nat.le_of_ble_eq_true rfl), (Nat.le_of_ble_eq_true rfl)⟩ (rest := [.ref (a 1)]) (st1 := [.int r122, .ref (a 1)]) rfl hl.1 rfl rfl (Nat.le_of_ble_eq_true rfl) dX6_payAll_122 ⟨Nat.le_refl _, Nat.le_refl _⟩ (fun H locs hI => ?_)
    refine lv_iconst (v := 2) hx hb dX6_payAll_125 rfl ?_
    refine lv_iadd hx hb dX6_payAll_126 ?_
    refine lv_dup2_11 hx hb dX6_payAll_127 rfl rfl ?_
    obtain ⟨v128, hv, h⟩ := bw_b1_e h
    refine bw_iald hx hb hK hI 1 hv rfl dX6_payAll_128 ?_
    refine lv_iload hx hb dX6_payAll_129 (lv_at hl 5 rfl) ?_
    refine lv_iadd hx hb dX6_payAll_131 ?_
    obtain ⟨z_132, hv, h⟩ := bw_b1_e h
    refine bw_iast hx hb hK hI 1 (ws' := (bw_mW cy a z_132 rows asd sm buf bm th od om ow ca bo la pl to rd hh)) hv rfl rfl dX6_payAll_132 (fun H locs hI => ?_)
    refine lv_iload_n hx hb dX6_payAll_133 rfl (lv_at hl 3 rfl) ?_
    refine lv_iload hx hb dX6_payAll_134 (lv_at hl 5 rfl) ?_
    refine lv_isub hx hb dX6_payAll_136 ?_
    refine lv_topi (fun x3_137 e_137 => ?_)
    have h := bw_let_e h e_137
    clear e_137
    refine lv_istore_n (lv' := [(3, .int x3_137), (6, .int s0), (0, .ref (a 0)), (1, .int x1), (4, .int x4), (5, .int x5)]) hx hb dX6_payAll_137 rfl hl (by decide) rfl (fun ls hl => ?_)
    refine lv_aload_n hx hb dX6_payAll_138 rfl (lv_at hl 2 rfl) ?_
    refine lv_iload hx hb dX6_payAll_139 (lv_at hl 4 rfl) ?_
    refine lv_iload hx hb dX6_payAll_141 (lv_at hl 5 rfl) ?_
    obtain ⟨z_143, hc, h⟩ := bw_b1_e h
    refine bw_callV S hK hZ hI (mX6_cutLoan l G cy g a z_132 rows asd sm buf bm th od om ow ca bo la pl to rd hh x4 x5 z_143 hc) Y_X6_cutLoan V_X6_cutLoan l_X6_64 ⟨(Nat.le_of_ble_eq_true rfl), (Nat.le_of_ble_eq_true rfl)⟩ (q0 := 0) rfl rfl rfl (ws' := (bw_mW cy a z_143 rows asd sm buf bm th od om ow ca bo la pl to rd hh)) (bw_pS _) (bw_pS' _) rfl rfl hl.1 (rest := []) (st1 := []) rfl rfl (Nat.le_of_ble_eq_true rfl) dX6_payAll_143 ⟨Nat.le_refl _, Nat.le_refl _⟩ (fun H locs hI => ?_)
    refine lv_iload hx hb dX6_payAll_146 (lv_at hl 4 rfl) ?_
    refine lv_iload hx hb dX6_payAll_148 (lv_at hl 1 rfl) ?_
    refine lv_if_eq (tgt := 157) hx hb dX6_payAll_150 (by decide) (fun c_150 => ?_) (fun c_150 => ?_)
    · rw [if_pos c_150] at h
      refine lv_iconst (v := 1) hx hb dX6_payAll_157 rfl ?_
      exact j158 z_143 x1 x3_137 1 x4 k19 hk19 _ _ _ h hI (lv_sub hl [2,3,0] rfl)
    rw [if_neg c_150] at h
    refine lv_iconst (v := 0) hx hb dX6_payAll_153 rfl ?_
    refine lv_goto (tgt := 158) hx hb dX6_payAll_154 (by decide) ?_
    exact j158 z_143 x1 x3_137 0 x4 k19 hk19 _ _ _ h hI (lv_sub hl [2,3,0] rfl)
  have l19 : ∀ (x1 : Int32) (n : Nat) (H : Heap) (locs : List Loc) (ls : Array Slot) (z : bw_A1) (x3 : Int32) (x4 : Int32), lX6_payAll_19 x1 n z x3 x4 = some z' → bw_I G A s.heap (bw_mW cy a z rows asd sm buf bm th od om ow ca bo la pl to rd hh) H locs → lv_has ls 7 [(0, .ref (a 0)), (1, .int x1), (3, .int x3), (4, .int x4)] → W p l e (bw_rm 3 64) s m [.ref (a 0), .int p1, .int p2].toArray below meth c H locs 0 0 Q (F0 m 19 ls []) := by
    intro x1 n
    induction n with
    | zero => intro H locs ls z x3 x4 h; exact bw_none h
    | succ n ih =>
      intro H locs ls z x3 x4 h hI hl
      have h : bX6_payAll_19  (lX6_payAll_19 x1 n) x1 z x3 x4 = some z' := h
      unfold bX6_payAll_19 at h
      refine lv_iload hx hb dX6_payAll_19 (lv_at hl 3 rfl) ?_
      refine lv_aload_n hx hb dX6_payAll_21 rfl (lv_at hl 0 rfl) ?_
      refine bw_get S hK hI 0 0 rfl rfl (by decide) i_X6 f_X6_7 rfl dX6_payAll_22 ?_
      refine lv_iconst (v := 1) hx hb dX6_payAll_25 rfl ?_
      obtain ⟨v26, hv, h⟩ := bw_b1_e h
      refine bw_iald hx hb hK hI 1 hv rfl dX6_payAll_26 ?_
      refine lv_icmp_ge (tgt := 170) hx hb dX6_payAll_27 (by decide) (fun c_27 => ?_) (fun c_27 => ?_)
      · rw [if_pos c_27] at h
        subst hQ
        exact bw_vret S hr hlocks h (fun q : bw_A1 => (bw_mW cy a q rows asd sm buf bm th od om ow ca bo la pl to rd hh)) hI dX6_payAll_170
      rw [if_neg c_27] at h
      refine lv_iload_n hx hb dX6_payAll_30 rfl (lv_at hl 2 rfl) ?_
      refine lv_if_le (tgt := 170) hx hb dX6_payAll_31 (by decide) (fun c_31 => ?_) (fun c_31 => ?_)
      · rw [if_pos c_31] at h
        subst hQ
        exact bw_vret S hr hlocks h (fun q : bw_A1 => (bw_mW cy a q rows asd sm buf bm th od om ow ca bo la pl to rd hh)) hI dX6_payAll_170
      rw [if_neg c_31] at h
      refine lv_aload_n hx hb dX6_payAll_34 rfl (lv_at hl 0 rfl) ?_
      refine bw_get S hK hI 0 0 rfl rfl (by decide) i_X6 f_X6_7 rfl dX6_payAll_35 ?_
      refine lv_iload hx hb dX6_payAll_38 (lv_at hl 3 rfl) ?_
      obtain ⟨r40, hc, h⟩ := bw_b1_e h
      refine bw_callP S hK hZ hI (mX6_loanAt l G cy g x4 r40 hc) Y_X6_loanAt V_X6_loanAt l_X6_50 ⟨(Nat.le_of_ble_eq_true rfl), (Nat.le_of_ble_eq_true rfl)⟩ (rest := [.ref (a 1)]) (st1 := [.int r40, .ref (a 1)]) rfl hl.1 rfl rfl (Nat.le_of_ble_eq_true rfl) dX6_payAll_40 ⟨Nat.le_refl _, Nat.le_refl _⟩ (fun H locs hI => ?_)
      refine lv_iconst (v := 1) hx hb dX6_payAll_43 rfl ?_
      refine lv_iadd hx hb dX6_payAll_44 ?_
      obtain ⟨v45, hv, h⟩ := bw_b1_e h
      refine bw_iald hx hb hK hI 1 hv rfl dX6_payAll_45 ?_
      refine lv_iload_n hx hb dX6_payAll_46 rfl (lv_at hl 1 rfl) ?_
      refine lv_icmp_ne (tgt := 164) hx hb dX6_payAll_47 (by decide) (fun c_47 => ?_) (fun c_47 => ?_)
      · rw [if_neg c_47] at h
        obtain ⟨x4_164, e_164⟩ : ∃ y : Int32, y = x4 + 1 := ⟨_, rfl⟩
        have h := bw_let_e h e_164
        refine lv_iinc (v := x4_164) (lv' := [(4, .int x4_164), (0, .ref (a 0)), (1, .int x1), (3, .int x3)]) hx hb dX6_payAll_164 hl (k := 3) rfl (by rw [e_164]; rfl) (by decide) rfl (fun ls hl => ?_)
        clear e_164
        refine lv_goto (tgt := 19) hx hb dX6_payAll_167 (by decide) ?_
        exact ih _ _ _ z x3 x4_164 h hI (lv_sub hl [1,2,3,0] rfl)
      rw [if_pos c_47] at h
      refine lv_iload_n hx hb dX6_payAll_50 rfl (lv_at hl 2 rfl) ?_
      refine lv_aload_n hx hb dX6_payAll_51 rfl (lv_at hl 0 rfl) ?_
      refine bw_get S hK hI 0 0 rfl rfl (by decide) i_X6 f_X6_7 rfl dX6_payAll_52 ?_
      refine lv_iload hx hb dX6_payAll_55 (lv_at hl 3 rfl) ?_
      obtain ⟨r57, hc, h⟩ := bw_b1_e h
      refine bw_callP S hK hZ hI (mX6_loanAt l G cy g x4 r57 hc) Y_X6_loanAt V_X6_loanAt l_X6_50 ⟨(Nat.le_of_ble_eq_true rfl), (Nat.le_of_ble_eq_true rfl)⟩ (rest := [.ref (a 1), .int x3]) (st1 := [.int r57, .ref (a 1), .int x3]) rfl hl.1 rfl rfl (Nat.le_of_ble_eq_true rfl) dX6_payAll_57 ⟨Nat.le_refl _, Nat.le_refl _⟩ (fun H locs hI => ?_)
      refine lv_iconst (v := 2) hx hb dX6_payAll_60 rfl ?_
      refine lv_iadd hx hb dX6_payAll_61 ?_
      obtain ⟨v62, hv, h⟩ := bw_b1_e h
      refine bw_iald hx hb hK hI 1 hv rfl dX6_payAll_62 ?_
      obtain ⟨r63, hc, h⟩ := bw_b1_e h
      refine bw_callP S hK hZ hI (mX6_least l G cy g x3 v62 r63 hc) Y_X6_least V_X6_least l_X6_61 ⟨(Nat.le_of_ble_eq_true rfl), (Nat.le_of_ble_eq_true rfl)⟩ (rest := []) (st1 := [.int r63]) rfl hl.1 rfl rfl (Nat.le_of_ble_eq_true rfl) dX6_payAll_63 ⟨Nat.le_refl _, Nat.le_refl _⟩ (fun H locs hI => ?_)
      refine lv_istore (lv' := [(5, .int r63), (0, .ref (a 0)), (1, .int x1), (3, .int x3), (4, .int x4)]) hx hb dX6_payAll_66 hl (by decide) rfl (fun ls hl => ?_)
      refine lv_iload hx hb dX6_payAll_68 (lv_at hl 0 rfl) ?_
      refine lv_aload_n hx hb dX6_payAll_70 rfl (lv_at hl 1 rfl) ?_
      refine bw_get S hK hI 0 0 rfl rfl (by decide) i_X6 f_X6_7 rfl dX6_payAll_71 ?_
      refine lv_iload hx hb dX6_payAll_74 (lv_at hl 4 rfl) ?_
      obtain ⟨r76, hc, h⟩ := bw_b1_e h
      refine bw_callP S hK hZ hI (mX6_loanAt l G cy g x4 r76 hc) Y_X6_loanAt V_X6_loanAt l_X6_50 ⟨(Nat.le_of_ble_eq_true rfl), (Nat.le_of_ble_eq_true rfl)⟩ (rest := [.ref (a 1), .int r63]) (st1 := [.int r76, .ref (a 1), .int r63]) rfl hl.1 rfl rfl (Nat.le_of_ble_eq_true rfl) dX6_payAll_76 ⟨Nat.le_refl _, Nat.le_refl _⟩ (fun H locs hI => ?_)
      refine lv_iconst (v := 2) hx hb dX6_payAll_79 rfl ?_
      refine lv_iadd hx hb dX6_payAll_80 ?_
      obtain ⟨v81, hv, h⟩ := bw_b1_e h
      refine bw_iald hx hb hK hI 1 hv rfl dX6_payAll_81 ?_
      refine lv_icmp_ne (tgt := 89) hx hb dX6_payAll_82 (by decide) (fun c_82 => ?_) (fun c_82 => ?_)
      · rw [if_neg c_82] at h
        refine lv_iconst (v := 0) hx hb dX6_payAll_89 rfl ?_
        exact j90 z x1 x3 x4 r63 0 (lX6_payAll_19 x1 n) ih _ _ _ h hI (lv_sub hl [1,2,3,4,0] rfl)
      rw [if_pos c_82] at h
      refine lv_iconst (v := 1) hx hb dX6_payAll_85 rfl ?_
      refine lv_goto (tgt := 90) hx hb dX6_payAll_86 (by decide) ?_
      exact j90 z x1 x3 x4 r63 1 (lX6_payAll_19 x1 n) ih _ _ _ h hI (lv_sub hl [1,2,3,4,0] rfl)
  unfold fX6_payAll at h
  refine lv_iload_n hx hb dX6_payAll_0 rfl (lv_at hl 2 rfl) ?_
  refine lv_aload_n hx hb dX6_payAll_1 rfl (lv_at hl 0 rfl) ?_
  refine bw_get S hK hI 0 0 rfl rfl (by decide) i_X6 f_X6_7 rfl dX6_payAll_2 ?_
  refine lv_iload_n hx hb dX6_payAll_5 rfl (lv_at hl 1 rfl) ?_
  obtain ⟨r6, hc, h⟩ := bw_b1_e h
  refine bw_callP S hK hZ hI (mX6_at l G cy g p1 r6 hc) Y_X6_at V_X6_at l_X6_39 ⟨(Nat.le_of_ble_eq_true rfl), (Nat.le_of_ble_eq_true rfl)⟩ (rest := [.ref (a 1), .int p2]) (st1 := [.int r6, .ref (a 1), .int p2]) rfl hl.1 rfl rfl (Nat.le_of_ble_eq_true rfl) dX6_payAll_6 ⟨Nat.le_refl _, Nat.le_refl _⟩ (fun H locs hI => ?_)
  refine lv_iconst (v := 2) hx hb dX6_payAll_9 rfl ?_
  refine lv_iadd hx hb dX6_payAll_10 ?_
  obtain ⟨v11, hv, h⟩ := bw_b1_e h
  refine bw_iald hx hb hK hI 1 hv rfl dX6_payAll_11 ?_
  obtain ⟨r12, hc, h⟩ := bw_b1_e h
  refine bw_callP S hK hZ hI (mX6_least l G cy g p2 v11 r12 hc) Y_X6_least V_X6_least l_X6_61 ⟨(Nat.le_of_ble_eq_true rfl), (Nat.le_of_ble_eq_true rfl)⟩ (rest := []) (st1 := [.int r12]) rfl hl.1 rfl rfl (Nat.le_of_ble_eq_true rfl) dX6_payAll_12 ⟨Nat.le_refl _, Nat.le_refl _⟩ (fun H locs hI => ?_)
  refine lv_istore_n (lv' := [(3, .int r12), (0, .ref (a 0)), (1, .int p1), (2, .int p2)]) hx hb dX6_payAll_15 rfl hl (by decide) rfl (fun ls hl => ?_)
  refine lv_iconst (v := 0) hx hb dX6_payAll_16 rfl ?_
  refine lv_istore (lv' := [(4, .int 0), (3, .int r12), (0, .ref (a 0)), (1, .int p1), (2, .int p2)]) hx hb dX6_payAll_17 hl (by decide) rfl (fun ls hl => ?_)
  exact l19 p1 bw_fu _ _ _ z r12 0 h hI (lv_sub hl [2,3,1,0] rfl)
set_option maxHeartbeats 4000000 in
set_option maxRecDepth 100000 in
theorem mX6_lentBy (l : Launch) (G : va_G) (cy : Nat → ClassId) (g : Nat) (a : Nat → Nat) (z : bw_A1) (rows : bw_A1) (asd : bw_A1) (sm : Int32) (buf : bw_A1) (bm : Int32) (th : Int32) (od : bw_A1) (om : Int32) (ow : Int32) (ca : Int32) (bo : Int32) (la : Int32) (pl : Int32) (to : Int32) (rd : bw_A1) (hh : Int64) (p1 : Int32) (r : Int32) (h : fX6_lentBy z p1 = some r) : bw_M l yX6_lentBy cX6_lentBy 4 (some .int) 1 20 G cy g [.ref (a 0), .int p1] (bw_mW cy a z rows asd sm buf bm th od om ow ca bo la pl to rd hh) (some (.int r)) (bw_mW cy a z rows asd sm buf bm th od om ow ca bo la pl to rd hh) := by
  refine bw_ofW (by decide +kernel) RX6 rfl (Nat.le_of_ble_eq_true rfl) ?_
  intro p e s m below meth c ls S hr hlocks hK hZ hI hl
  have hx := S.1
  have hb := S.2.1
  have hown := S.2.2.2.1
  have hts := S.2.2.2.2
  generalize va_A _ s.heap.size = A at hI hZ ⊢
  generalize hQ : MQ below _ _ s 0 0 A = Q
  have hl : lv_has ls 4 [(0, .ref (a 0)), (1, .int p1)] := hl
  have j43 : ∀ (x1 : Int32) (x3 : Int32) (s0 : Int32) (s1 : Int32) (k4 : Int32 → Int32 → Option Int32) (hk4 : ∀ (H : Heap) (locs : List Loc) (ls : Array Slot) (x2_ : Int32) (x3_ : Int32), k4 x2_ x3_ = some r → bw_I G A s.heap (bw_mW cy a z rows asd sm buf bm th od om ow ca bo la pl to rd hh) H locs → lv_has ls 4 [(0, .ref (a 0)), (1, .int x1), (2, .int x2_), (3, .int x3_)] → W p l e (bw_rm 1 20) s m [.ref (a 0), .int p1].toArray below meth c H locs 0 0 Q (F0 m 4 ls [])) (H : Heap) (locs : List Loc) (ls : Array Slot), jX6_lentBy_43 k4 z x1 x3 s0 s1 = some r → bw_I G A s.heap (bw_mW cy a z rows asd sm buf bm th od om ow ca bo la pl to rd hh) H locs → lv_has ls 4 [(0, .ref (a 0)), (1, .int x1), (3, .int x3)] → W p l e (bw_rm 1 20) s m [.ref (a 0), .int p1].toArray below meth c H locs 0 0 Q (F0 m 43 ls [.int s0, .int s1]) := by
    intro x1 x3 s0 s1 k4 hk4 H locs ls h hI hl
    unfold jX6_lentBy_43 at h
    refine lv_iadd hx hb dX6_lentBy_43 ?_
    refine lv_topi (fun x2_44 e_44 => ?_)
    have h := bw_let_e h e_44
    clear e_44
    refine lv_istore_n (lv' := [(2, .int x2_44), (0, .ref (a 0)), (1, .int x1), (3, .int x3)]) hx hb dX6_lentBy_44 rfl hl (by decide) rfl (fun ls hl => ?_)
    obtain ⟨x3_45, e_45⟩ : ∃ y : Int32, y = x3 + 1 := ⟨_, rfl⟩
    have h := bw_let_e h e_45
    refine lv_iinc (v := x3_45) (lv' := [(3, .int x3_45), (2, .int x2_44), (0, .ref (a 0)), (1, .int x1)]) hx hb dX6_lentBy_45 hl (k := 3) rfl (by rw [e_45]; rfl) (by decide) rfl (fun ls hl => ?_)
    clear e_45
    refine lv_goto (tgt := 4) hx hb dX6_lentBy_48 (by decide) ?_
    exact hk4 _ _ _ x2_44 x3_45 h hI (lv_sub hl [2,3,1,0] rfl)
  have l4 : ∀ (x1 : Int32) (n : Nat) (H : Heap) (locs : List Loc) (ls : Array Slot) (x2 : Int32) (x3 : Int32), lX6_lentBy_4 z x1 n x2 x3 = some r → bw_I G A s.heap (bw_mW cy a z rows asd sm buf bm th od om ow ca bo la pl to rd hh) H locs → lv_has ls 4 [(0, .ref (a 0)), (1, .int x1), (2, .int x2), (3, .int x3)] → W p l e (bw_rm 1 20) s m [.ref (a 0), .int p1].toArray below meth c H locs 0 0 Q (F0 m 4 ls []) := by
    intro x1 n
    induction n with
    | zero => intro H locs ls x2 x3 h; exact bw_none h
    | succ n ih =>
      intro H locs ls x2 x3 h hI hl
      have h : bX6_lentBy_4  (lX6_lentBy_4 z x1 n) z x1 x2 x3 = some r := h
      unfold bX6_lentBy_4 at h
      refine lv_iload_n hx hb dX6_lentBy_4 rfl (lv_at hl 3 rfl) ?_
      refine lv_aload_n hx hb dX6_lentBy_5 rfl (lv_at hl 0 rfl) ?_
      refine bw_get S hK hI 0 0 rfl rfl (by decide) i_X6 f_X6_7 rfl dX6_lentBy_6 ?_
      refine lv_iconst (v := 1) hx hb dX6_lentBy_9 rfl ?_
      obtain ⟨v10, hv, h⟩ := bw_b1_e h
      refine bw_iald hx hb hK hI 1 hv rfl dX6_lentBy_10 ?_
      refine lv_icmp_ge (tgt := 51) hx hb dX6_lentBy_11 (by decide) (fun c_11 => ?_) (fun c_11 => ?_)
      · rw [if_pos c_11] at h
        refine lv_iload_n hx hb dX6_lentBy_51 rfl (lv_at hl 2 rfl) ?_
        subst hQ
        exact bw_iretP S hr hlocks h hI rfl dX6_lentBy_52
      rw [if_neg c_11] at h
      refine lv_iload_n hx hb dX6_lentBy_14 rfl (lv_at hl 2 rfl) ?_
      refine lv_aload_n hx hb dX6_lentBy_15 rfl (lv_at hl 0 rfl) ?_
      refine bw_get S hK hI 0 0 rfl rfl (by decide) i_X6 f_X6_7 rfl dX6_lentBy_16 ?_
      refine lv_iload_n hx hb dX6_lentBy_19 rfl (lv_at hl 3 rfl) ?_
      obtain ⟨r20, hc, h⟩ := bw_b1_e h
      refine bw_callP S hK hZ hI (mX6_loanAt l G cy g x3 r20 hc) Y_X6_loanAt V_X6_loanAt l_X6_50 ⟨(Nat.le_of_ble_eq_true rfl), (Nat.le_of_ble_eq_true rfl)⟩ (rest := [.ref (a 1), .int x2]) (st1 := [.int r20, .ref (a 1), .int x2]) rfl hl.1 rfl rfl (Nat.le_of_ble_eq_true rfl) dX6_lentBy_20 ⟨Nat.le_refl _, Nat.le_refl _⟩ (fun H locs hI => ?_)
      obtain ⟨v23, hv, h⟩ := bw_b1_e h
      refine bw_iald hx hb hK hI 1 hv rfl dX6_lentBy_23 ?_
      refine lv_iload_n hx hb dX6_lentBy_24 rfl (lv_at hl 1 rfl) ?_
      refine lv_icmp_ne (tgt := 42) hx hb dX6_lentBy_25 (by decide) (fun c_25 => ?_) (fun c_25 => ?_)
      · rw [if_neg c_25] at h
        refine lv_iconst (v := 0) hx hb dX6_lentBy_42 rfl ?_
        exact j43 x1 x3 0 x2 (lX6_lentBy_4 z x1 n) ih _ _ _ h hI (lv_sub hl [0,1,3] rfl)
      rw [if_pos c_25] at h
      refine lv_aload_n hx hb dX6_lentBy_28 rfl (lv_at hl 0 rfl) ?_
      refine bw_get S hK hI 0 0 rfl rfl (by decide) i_X6 f_X6_7 rfl dX6_lentBy_29 ?_
      refine lv_iload_n hx hb dX6_lentBy_32 rfl (lv_at hl 3 rfl) ?_
      obtain ⟨r33, hc, h⟩ := bw_b1_e h
      refine bw_callP S hK hZ hI (mX6_loanAt l G cy g x3 r33 hc) Y_X6_loanAt V_X6_loanAt l_X6_50 ⟨(Nat.le_of_ble_eq_true rfl), (Nat.le_of_ble_eq_true rfl)⟩ (rest := [.ref (a 1), .int x2]) (st1 := [.int r33, .ref (a 1), .int x2]) rfl hl.1 rfl rfl (Nat.le_of_ble_eq_true rfl) dX6_lentBy_33 ⟨Nat.le_refl _, Nat.le_refl _⟩ (fun H locs hI => ?_)
      refine lv_iconst (v := 2) hx hb dX6_lentBy_36 rfl ?_
      refine lv_iadd hx hb dX6_lentBy_37 ?_
      obtain ⟨v38, hv, h⟩ := bw_b1_e h
      refine bw_iald hx hb hK hI 1 hv rfl dX6_lentBy_38 ?_
      refine lv_goto (tgt := 43) hx hb dX6_lentBy_39 (by decide) ?_
      exact j43 x1 x3 v38 x2 (lX6_lentBy_4 z x1 n) ih _ _ _ h hI (lv_sub hl [0,1,3] rfl)
  unfold fX6_lentBy at h
  refine lv_iconst (v := 0) hx hb dX6_lentBy_0 rfl ?_
  refine lv_istore_n (lv' := [(2, .int 0), (0, .ref (a 0)), (1, .int p1)]) hx hb dX6_lentBy_1 rfl hl (by decide) rfl (fun ls hl => ?_)
  refine lv_iconst (v := 0) hx hb dX6_lentBy_2 rfl ?_
  refine lv_istore_n (lv' := [(3, .int 0), (2, .int 0), (0, .ref (a 0)), (1, .int p1)]) hx hb dX6_lentBy_3 rfl hl (by decide) rfl (fun ls hl => ?_)
  exact l4 p1 bw_fu _ _ _ 0 0 h hI (lv_sub hl [2,3,1,0] rfl)
set_option maxHeartbeats 4000000 in
set_option maxRecDepth 100000 in
theorem mX6_owedBy (l : Launch) (G : va_G) (cy : Nat → ClassId) (g : Nat) (a : Nat → Nat) (z : bw_A1) (rows : bw_A1) (asd : bw_A1) (sm : Int32) (buf : bw_A1) (bm : Int32) (th : Int32) (od : bw_A1) (om : Int32) (ow : Int32) (ca : Int32) (bo : Int32) (la : Int32) (pl : Int32) (to : Int32) (rd : bw_A1) (hh : Int64) (p1 : Int32) (r : Int32) (h : fX6_owedBy z p1 = some r) : bw_M l yX6_owedBy cX6_owedBy 4 (some .int) 1 20 G cy g [.ref (a 0), .int p1] (bw_mW cy a z rows asd sm buf bm th od om ow ca bo la pl to rd hh) (some (.int r)) (bw_mW cy a z rows asd sm buf bm th od om ow ca bo la pl to rd hh) := by
  refine bw_ofW (by decide +kernel) RX6 rfl (Nat.le_of_ble_eq_true rfl) ?_
  intro p e s m below meth c ls S hr hlocks hK hZ hI hl
  have hx := S.1
  have hb := S.2.1
  have hown := S.2.2.2.1
  have hts := S.2.2.2.2
  generalize va_A _ s.heap.size = A at hI hZ ⊢
  generalize hQ : MQ below _ _ s 0 0 A = Q
  have hl : lv_has ls 4 [(0, .ref (a 0)), (1, .int p1)] := hl
  have j45 : ∀ (x1 : Int32) (x3 : Int32) (s0 : Int32) (s1 : Int32) (k4 : Int32 → Int32 → Option Int32) (hk4 : ∀ (H : Heap) (locs : List Loc) (ls : Array Slot) (x2_ : Int32) (x3_ : Int32), k4 x2_ x3_ = some r → bw_I G A s.heap (bw_mW cy a z rows asd sm buf bm th od om ow ca bo la pl to rd hh) H locs → lv_has ls 4 [(0, .ref (a 0)), (1, .int x1), (2, .int x2_), (3, .int x3_)] → W p l e (bw_rm 1 20) s m [.ref (a 0), .int p1].toArray below meth c H locs 0 0 Q (F0 m 4 ls [])) (H : Heap) (locs : List Loc) (ls : Array Slot), jX6_owedBy_45 k4 z x1 x3 s0 s1 = some r → bw_I G A s.heap (bw_mW cy a z rows asd sm buf bm th od om ow ca bo la pl to rd hh) H locs → lv_has ls 4 [(0, .ref (a 0)), (1, .int x1), (3, .int x3)] → W p l e (bw_rm 1 20) s m [.ref (a 0), .int p1].toArray below meth c H locs 0 0 Q (F0 m 45 ls [.int s0, .int s1]) := by
    intro x1 x3 s0 s1 k4 hk4 H locs ls h hI hl
    unfold jX6_owedBy_45 at h
    refine lv_iadd hx hb dX6_owedBy_45 ?_
    refine lv_topi (fun x2_46 e_46 => ?_)
    have h := bw_let_e h e_46
    clear e_46
    refine lv_istore_n (lv' := [(2, .int x2_46), (0, .ref (a 0)), (1, .int x1), (3, .int x3)]) hx hb dX6_owedBy_46 rfl hl (by decide) rfl (fun ls hl => ?_)
    obtain ⟨x3_47, e_47⟩ : ∃ y : Int32, y = x3 + 1 := ⟨_, rfl⟩
    have h := bw_let_e h e_47
    refine lv_iinc (v := x3_47) (lv' := [(3, .int x3_47), (2, .int x2_46), (0, .ref (a 0)), (1, .int x1)]) hx hb dX6_owedBy_47 hl (k := 3) rfl (by rw [e_47]; rfl) (by decide) rfl (fun ls hl => ?_)
    clear e_47
    refine lv_goto (tgt := 4) hx hb dX6_owedBy_50 (by decide) ?_
    exact hk4 _ _ _ x2_46 x3_47 h hI (lv_sub hl [2,3,1,0] rfl)
  have l4 : ∀ (x1 : Int32) (n : Nat) (H : Heap) (locs : List Loc) (ls : Array Slot) (x2 : Int32) (x3 : Int32), lX6_owedBy_4 z x1 n x2 x3 = some r → bw_I G A s.heap (bw_mW cy a z rows asd sm buf bm th od om ow ca bo la pl to rd hh) H locs → lv_has ls 4 [(0, .ref (a 0)), (1, .int x1), (2, .int x2), (3, .int x3)] → W p l e (bw_rm 1 20) s m [.ref (a 0), .int p1].toArray below meth c H locs 0 0 Q (F0 m 4 ls []) := by
    intro x1 n
    induction n with
    | zero => intro H locs ls x2 x3 h; exact bw_none h
    | succ n ih =>
      intro H locs ls x2 x3 h hI hl
      have h : bX6_owedBy_4  (lX6_owedBy_4 z x1 n) z x1 x2 x3 = some r := h
      unfold bX6_owedBy_4 at h
      refine lv_iload_n hx hb dX6_owedBy_4 rfl (lv_at hl 3 rfl) ?_
      refine lv_aload_n hx hb dX6_owedBy_5 rfl (lv_at hl 0 rfl) ?_
      refine bw_get S hK hI 0 0 rfl rfl (by decide) i_X6 f_X6_7 rfl dX6_owedBy_6 ?_
      refine lv_iconst (v := 1) hx hb dX6_owedBy_9 rfl ?_
      obtain ⟨v10, hv, h⟩ := bw_b1_e h
      refine bw_iald hx hb hK hI 1 hv rfl dX6_owedBy_10 ?_
      refine lv_icmp_ge (tgt := 53) hx hb dX6_owedBy_11 (by decide) (fun c_11 => ?_) (fun c_11 => ?_)
      · rw [if_pos c_11] at h
        refine lv_iload_n hx hb dX6_owedBy_53 rfl (lv_at hl 2 rfl) ?_
        subst hQ
        exact bw_iretP S hr hlocks h hI rfl dX6_owedBy_54
      rw [if_neg c_11] at h
      refine lv_iload_n hx hb dX6_owedBy_14 rfl (lv_at hl 2 rfl) ?_
      refine lv_aload_n hx hb dX6_owedBy_15 rfl (lv_at hl 0 rfl) ?_
      refine bw_get S hK hI 0 0 rfl rfl (by decide) i_X6 f_X6_7 rfl dX6_owedBy_16 ?_
      refine lv_iload_n hx hb dX6_owedBy_19 rfl (lv_at hl 3 rfl) ?_
      obtain ⟨r20, hc, h⟩ := bw_b1_e h
      refine bw_callP S hK hZ hI (mX6_loanAt l G cy g x3 r20 hc) Y_X6_loanAt V_X6_loanAt l_X6_50 ⟨(Nat.le_of_ble_eq_true rfl), (Nat.le_of_ble_eq_true rfl)⟩ (rest := [.ref (a 1), .int x2]) (st1 := [.int r20, .ref (a 1), .int x2]) rfl hl.1 rfl rfl (Nat.le_of_ble_eq_true rfl) dX6_owedBy_20 ⟨Nat.le_refl _, Nat.le_refl _⟩ (fun H locs hI => ?_)
      refine lv_iconst (v := 1) hx hb dX6_owedBy_23 rfl ?_
      refine lv_iadd hx hb dX6_owedBy_24 ?_
      obtain ⟨v25, hv, h⟩ := bw_b1_e h
      refine bw_iald hx hb hK hI 1 hv rfl dX6_owedBy_25 ?_
      refine lv_iload_n hx hb dX6_owedBy_26 rfl (lv_at hl 1 rfl) ?_
      refine lv_icmp_ne (tgt := 44) hx hb dX6_owedBy_27 (by decide) (fun c_27 => ?_) (fun c_27 => ?_)
      · rw [if_neg c_27] at h
        refine lv_iconst (v := 0) hx hb dX6_owedBy_44 rfl ?_
        exact j45 x1 x3 0 x2 (lX6_owedBy_4 z x1 n) ih _ _ _ h hI (lv_sub hl [0,1,3] rfl)
      rw [if_pos c_27] at h
      refine lv_aload_n hx hb dX6_owedBy_30 rfl (lv_at hl 0 rfl) ?_
      refine bw_get S hK hI 0 0 rfl rfl (by decide) i_X6 f_X6_7 rfl dX6_owedBy_31 ?_
      refine lv_iload_n hx hb dX6_owedBy_34 rfl (lv_at hl 3 rfl) ?_
      obtain ⟨r35, hc, h⟩ := bw_b1_e h
      refine bw_callP S hK hZ hI (mX6_loanAt l G cy g x3 r35 hc) Y_X6_loanAt V_X6_loanAt l_X6_50 ⟨(Nat.le_of_ble_eq_true rfl), (Nat.le_of_ble_eq_true rfl)⟩ (rest := [.ref (a 1), .int x2]) (st1 := [.int r35, .ref (a 1), .int x2]) rfl hl.1 rfl rfl (Nat.le_of_ble_eq_true rfl) dX6_owedBy_35 ⟨Nat.le_refl _, Nat.le_refl _⟩ (fun H locs hI => ?_)
      refine lv_iconst (v := 2) hx hb dX6_owedBy_38 rfl ?_
      refine lv_iadd hx hb dX6_owedBy_39 ?_
      obtain ⟨v40, hv, h⟩ := bw_b1_e h
      refine bw_iald hx hb hK hI 1 hv rfl dX6_owedBy_40 ?_
      refine lv_goto (tgt := 45) hx hb dX6_owedBy_41 (by decide) ?_
      exact j45 x1 x3 v40 x2 (lX6_owedBy_4 z x1 n) ih _ _ _ h hI (lv_sub hl [0,1,3] rfl)
  unfold fX6_owedBy at h
  refine lv_iconst (v := 0) hx hb dX6_owedBy_0 rfl ?_
  refine lv_istore_n (lv' := [(2, .int 0), (0, .ref (a 0)), (1, .int p1)]) hx hb dX6_owedBy_1 rfl hl (by decide) rfl (fun ls hl => ?_)
  refine lv_iconst (v := 0) hx hb dX6_owedBy_2 rfl ?_
  refine lv_istore_n (lv' := [(3, .int 0), (2, .int 0), (0, .ref (a 0)), (1, .int p1)]) hx hb dX6_owedBy_3 rfl hl (by decide) rfl (fun ls hl => ?_)
  exact l4 p1 bw_fu _ _ _ 0 0 h hI (lv_sub hl [2,3,1,0] rfl)
set_option maxHeartbeats 4000000 in
set_option maxRecDepth 100000 in
theorem mX6_canLend (l : Launch) (G : va_G) (cy : Nat → ClassId) (g : Nat) (a : Nat → Nat) (z : bw_A1) (rows : bw_A1) (asd : bw_A1) (sm : Int32) (buf : bw_A1) (bm : Int32) (th : Int32) (od : bw_A1) (om : Int32) (ow : Int32) (ca : Int32) (bo : Int32) (la : Int32) (pl : Int32) (to : Int32) (rd : bw_A1) (hh : Int64) (p1 : Int32) (r : Int32) (h : fX6_canLend z p1 = some r) : bw_M l yX6_canLend cX6_canLend 4 (some .int) 2 41 G cy g [.ref (a 0), .int p1] (bw_mW cy a z rows asd sm buf bm th od om ow ca bo la pl to rd hh) (some (.int r)) (bw_mW cy a z rows asd sm buf bm th od om ow ca bo la pl to rd hh) := by
  refine bw_ofW (by decide +kernel) RX6 rfl (Nat.le_of_ble_eq_true rfl) ?_
  intro p e s m below meth c ls S hr hlocks hK hZ hI hl
  have hx := S.1
  have hb := S.2.1
  have hown := S.2.2.2.1
  have hts := S.2.2.2.2
  generalize va_A _ s.heap.size = A at hI hZ ⊢
  generalize hQ : MQ below _ _ s 0 0 A = Q
  have hl : lv_has ls 4 [(0, .ref (a 0)), (1, .int p1)] := hl
  have j49 : ∀  (H : Heap) (locs : List Loc) (ls : Array Slot), jX6_canLend_49 z = some r → bw_I G A s.heap (bw_mW cy a z rows asd sm buf bm th od om ow ca bo la pl to rd hh) H locs → lv_has ls 4 [] → W p l e (bw_rm 2 41) s m [.ref (a 0), .int p1].toArray below meth c H locs 0 0 Q (F0 m 49 ls []) := by
    intro  H locs ls h hI hl
    unfold jX6_canLend_49 at h
    refine lv_iconst (v := 0) hx hb dX6_canLend_49 rfl ?_
    subst hQ
    exact bw_iretP S hr hlocks h hI rfl dX6_canLend_50
  unfold fX6_canLend at h
  refine lv_iload_n hx hb dX6_canLend_0 rfl (lv_at hl 1 rfl) ?_
  obtain ⟨r1, hc, h⟩ := bw_b1_e h
  refine bw_callP S hK hZ hI (mX6_at l G cy g p1 r1 hc) Y_X6_at V_X6_at l_X6_39 ⟨(Nat.le_of_ble_eq_true rfl), (Nat.le_of_ble_eq_true rfl)⟩ (rest := []) (st1 := [.int r1]) rfl hl.1 rfl rfl (Nat.le_of_ble_eq_true rfl) dX6_canLend_1 ⟨Nat.le_refl _, Nat.le_refl _⟩ (fun H locs hI => ?_)
  refine lv_istore_n (lv' := [(2, .int r1), (0, .ref (a 0)), (1, .int p1)]) hx hb dX6_canLend_4 rfl hl (by decide) rfl (fun ls hl => ?_)
  refine lv_aload_n hx hb dX6_canLend_5 rfl (lv_at hl 1 rfl) ?_
  refine bw_get S hK hI 0 0 rfl rfl (by decide) i_X6 f_X6_7 rfl dX6_canLend_6 ?_
  refine lv_iload_n hx hb dX6_canLend_9 rfl (lv_at hl 0 rfl) ?_
  refine lv_iconst (v := 2) hx hb dX6_canLend_10 rfl ?_
  refine lv_iadd hx hb dX6_canLend_11 ?_
  obtain ⟨v12, hv, h⟩ := bw_b1_e h
  refine bw_iald hx hb hK hI 1 hv rfl dX6_canLend_12 ?_
  refine lv_aload_n hx hb dX6_canLend_13 rfl (lv_at hl 1 rfl) ?_
  refine bw_get S hK hI 0 0 rfl rfl (by decide) i_X6 f_X6_7 rfl dX6_canLend_14 ?_
  refine lv_iload_n hx hb dX6_canLend_17 rfl (lv_at hl 0 rfl) ?_
  refine lv_iconst (v := 1) hx hb dX6_canLend_18 rfl ?_
  refine lv_iadd hx hb dX6_canLend_19 ?_
  obtain ⟨v20, hv, h⟩ := bw_b1_e h
  refine bw_iald hx hb hK hI 1 hv rfl dX6_canLend_20 ?_
  refine lv_aload_n hx hb dX6_canLend_21 rfl (lv_at hl 1 rfl) ?_
  refine bw_get S hK hI 0 0 rfl rfl (by decide) i_X6 f_X6_7 rfl dX6_canLend_22 ?_
  refine lv_iconst (v := 4) hx hb dX6_canLend_25 rfl ?_
  obtain ⟨v26, hv, h⟩ := bw_b1_e h
  refine bw_iald hx hb hK hI 1 hv rfl dX6_canLend_26 ?_
  refine lv_imul hx hb dX6_canLend_27 ?_
  refine lv_bipush (v := 100) hx hb dX6_canLend_28 (by decide) ?_
  refine lv_idiv hx hb dX6_canLend_30 (by decide) ?_
  refine lv_isub hx hb dX6_canLend_31 ?_
  refine lv_topi (fun x3_32 e_32 => ?_)
  have h := bw_let_e h e_32
  clear e_32
  refine lv_istore_n (lv' := [(3, .int x3_32), (2, .int r1), (0, .ref (a 0)), (1, .int p1)]) hx hb dX6_canLend_32 rfl hl (by decide) rfl (fun ls hl => ?_)
  refine lv_aload_n hx hb dX6_canLend_33 rfl (lv_at hl 2 rfl) ?_
  refine lv_iload_n hx hb dX6_canLend_34 rfl (lv_at hl 3 rfl) ?_
  obtain ⟨r35, hc, h⟩ := bw_b1_e h
  refine bw_callV S hK hZ hI (mX6_isOpen l G cy g a z rows asd sm buf bm th od om ow ca bo la pl to rd hh p1 r35 hc) Y_X6_isOpen V_X6_isOpen l_X6_43 ⟨(Nat.le_of_ble_eq_true rfl), (Nat.le_of_ble_eq_true rfl)⟩ (q0 := 0) rfl rfl rfl (ws' := (bw_mW cy a z rows asd sm buf bm th od om ow ca bo la pl to rd hh)) (bw_pS _) (bw_pS' _) rfl rfl hl.1 (rest := []) (st1 := [.int r35]) rfl rfl (Nat.le_of_ble_eq_true rfl) dX6_canLend_35 ⟨Nat.le_refl _, Nat.le_refl _⟩ (fun H locs hI => ?_)
  refine lv_if_eq (tgt := 49) hx hb dX6_canLend_38 (by decide) (fun c_38 => ?_) (fun c_38 => ?_)
  · rw [if_pos c_38] at h
    exact j49  _ _ _ h hI (lv_sub hl [] rfl)
  rw [if_neg c_38] at h
  refine lv_iload_n hx hb dX6_canLend_41 rfl (lv_at hl 0 rfl) ?_
  refine lv_if_le (tgt := 49) hx hb dX6_canLend_42 (by decide) (fun c_42 => ?_) (fun c_42 => ?_)
  · rw [if_pos c_42] at h
    exact j49  _ _ _ h hI (lv_sub hl [] rfl)
  rw [if_neg c_42] at h
  refine lv_iload_n hx hb dX6_canLend_45 rfl (lv_at hl 0 rfl) ?_
  refine lv_goto (tgt := 50) hx hb dX6_canLend_46 (by decide) ?_
  subst hQ
  exact bw_iretP S hr hlocks h hI rfl dX6_canLend_50
set_option maxHeartbeats 4000000 in
set_option maxRecDepth 100000 in
theorem mX6_merit (l : Launch) (G : va_G) (cy : Nat → ClassId) (g : Nat) (a : Nat → Nat) (z : bw_A1) (rows : bw_A1) (asd : bw_A1) (sm : Int32) (buf : bw_A1) (bm : Int32) (th : Int32) (od : bw_A1) (om : Int32) (ow : Int32) (ca : Int32) (bo : Int32) (la : Int32) (pl : Int32) (to : Int32) (rd : bw_A1) (hh : Int64) (p1 : Int32) (r : Int32) (h : fX6_merit z p1 = some r) : bw_M l yX6_merit cX6_merit 2 (some .int) 3 64 G cy g [.ref (a 0), .int p1] (bw_mW cy a z rows asd sm buf bm th od om ow ca bo la pl to rd hh) (some (.int r)) (bw_mW cy a z rows asd sm buf bm th od om ow ca bo la pl to rd hh) := by
  refine bw_ofW (by decide +kernel) RX6 rfl (Nat.le_of_ble_eq_true rfl) ?_
  intro p e s m below meth c ls S hr hlocks hK hZ hI hl
  have hx := S.1
  have hb := S.2.1
  have hown := S.2.2.2.1
  have hts := S.2.2.2.2
  generalize va_A _ s.heap.size = A at hI hZ ⊢
  generalize hQ : MQ below _ _ s 0 0 A = Q
  have hl : lv_has ls 2 [(0, .ref (a 0)), (1, .int p1)] := hl
  unfold fX6_merit at h
  refine lv_aload_n hx hb dX6_merit_0 rfl (lv_at hl 0 rfl) ?_
  refine bw_get S hK hI 0 0 rfl rfl (by decide) i_X6 f_X6_7 rfl dX6_merit_1 ?_
  refine lv_iconst (v := 3) hx hb dX6_merit_4 rfl ?_
  obtain ⟨v5, hv, h⟩ := bw_b1_e h
  refine bw_iald hx hb hK hI 1 hv rfl dX6_merit_5 ?_
  refine lv_if_ne (tgt := 19) hx hb dX6_merit_6 (by decide) (fun c_6 => ?_) (fun c_6 => ?_)
  · rw [if_neg c_6] at h
    refine lv_aload_n hx hb dX6_merit_19 rfl (lv_at hl 0 rfl) ?_
    refine bw_get S hK hI 0 0 rfl rfl (by decide) i_X6 f_X6_7 rfl dX6_merit_20 ?_
    refine lv_iconst (v := 3) hx hb dX6_merit_23 rfl ?_
    obtain ⟨v24, hv, h⟩ := bw_b1_e h
    refine bw_iald hx hb hK hI 1 hv rfl dX6_merit_24 ?_
    refine lv_iconst (v := 1) hx hb dX6_merit_25 rfl ?_
    refine lv_icmp_ne (tgt := 37) hx hb dX6_merit_26 (by decide) (fun c_26 => ?_) (fun c_26 => ?_)
    · rw [if_neg c_26] at h
      refine lv_aload_n hx hb dX6_merit_37 rfl (lv_at hl 0 rfl) ?_
      refine lv_iload_n hx hb dX6_merit_38 rfl (lv_at hl 1 rfl) ?_
      obtain ⟨r39, hc, h⟩ := bw_b1_e h
      refine bw_callV S hK hZ hI (mX6_lentBy l G cy g a z rows asd sm buf bm th od om ow ca bo la pl to rd hh p1 r39 hc) Y_X6_lentBy V_X6_lentBy l_X6_71 ⟨(Nat.le_of_ble_eq_true rfl), (Nat.le_of_ble_eq_true rfl)⟩ (q0 := 0) rfl rfl rfl (ws' := (bw_mW cy a z rows asd sm buf bm th od om ow ca bo la pl to rd hh)) (bw_pS _) (bw_pS' _) rfl rfl hl.1 (rest := []) (st1 := [.int r39]) rfl rfl (Nat.le_of_ble_eq_true rfl) dX6_merit_39 ⟨Nat.le_refl _, Nat.le_refl _⟩ (fun H locs hI => ?_)
      refine lv_ineg hx hb dX6_merit_42 ?_
      subst hQ
      exact bw_iretP S hr hlocks h hI rfl dX6_merit_43
    rw [if_pos c_26] at h
    refine lv_aload_n hx hb dX6_merit_29 rfl (lv_at hl 0 rfl) ?_
    refine lv_iload_n hx hb dX6_merit_30 rfl (lv_at hl 1 rfl) ?_
    obtain ⟨r31, hc, h⟩ := bw_b1_e h
    refine bw_callV S hK hZ hI (mX6_canLend l G cy g a z rows asd sm buf bm th od om ow ca bo la pl to rd hh p1 r31 hc) Y_X6_canLend V_X6_canLend l_X6_68 ⟨(Nat.le_of_ble_eq_true rfl), (Nat.le_of_ble_eq_true rfl)⟩ (q0 := 0) rfl rfl rfl (ws' := (bw_mW cy a z rows asd sm buf bm th od om ow ca bo la pl to rd hh)) (bw_pS _) (bw_pS' _) rfl rfl hl.1 (rest := []) (st1 := [.int r31]) rfl rfl (Nat.le_of_ble_eq_true rfl) dX6_merit_31 ⟨Nat.le_refl _, Nat.le_refl _⟩ (fun H locs hI => ?_)
    refine lv_goto (tgt := 43) hx hb dX6_merit_34 (by decide) ?_
    subst hQ
    exact bw_iretP S hr hlocks h hI rfl dX6_merit_43
  rw [if_pos c_6] at h
  refine lv_aload_n hx hb dX6_merit_9 rfl (lv_at hl 0 rfl) ?_
  refine bw_get S hK hI 0 0 rfl rfl (by decide) i_X6 f_X6_7 rfl dX6_merit_10 ?_
  refine lv_iload_n hx hb dX6_merit_13 rfl (lv_at hl 1 rfl) ?_
  obtain ⟨r14, hc, h⟩ := bw_b1_e h
  refine bw_callP S hK hZ hI (mX6_at l G cy g p1 r14 hc) Y_X6_at V_X6_at l_X6_39 ⟨(Nat.le_of_ble_eq_true rfl), (Nat.le_of_ble_eq_true rfl)⟩ (rest := [.ref (a 1)]) (st1 := [.int r14, .ref (a 1)]) rfl hl.1 rfl rfl (Nat.le_of_ble_eq_true rfl) dX6_merit_14 ⟨Nat.le_refl _, Nat.le_refl _⟩ (fun H locs hI => ?_)
  obtain ⟨v17, hv, h⟩ := bw_b1_e h
  refine bw_iald hx hb hK hI 1 hv rfl dX6_merit_17 ?_
  subst hQ
  exact bw_iretP S hr hlocks h hI rfl dX6_merit_18
set_option maxHeartbeats 4000000 in
set_option maxRecDepth 100000 in
theorem mX6_layOrder (l : Launch) (G : va_G) (cy : Nat → ClassId) (g : Nat) (a : Nat → Nat) (z : bw_A1) (rows : bw_A1) (asd : bw_A1) (sm : Int32) (buf : bw_A1) (bm : Int32) (th : Int32) (od : bw_A1) (om : Int32) (ow : Int32) (ca : Int32) (bo : Int32) (la : Int32) (pl : Int32) (to : Int32) (rd : bw_A1) (hh : Int64) (p1 : Int32) (od' : bw_A1) (om' : Int32) (h : fX6_layOrder z od om p1 = some (od', om')) : bw_M l yX6_layOrder cX6_layOrder 7 none 4 85 G cy g [.ref (a 0), .int p1] (bw_mW cy a z rows asd sm buf bm th od om ow ca bo la pl to rd hh) none (bw_mW cy a z rows asd sm buf bm th od' om' ow ca bo la pl to rd hh) := by
  refine bw_ofW (by decide +kernel) RX6 rfl (Nat.le_of_ble_eq_true rfl) ?_
  intro p e s m below meth c ls S hr hlocks hK hZ hI hl
  have hx := S.1
  have hb := S.2.1
  have hown := S.2.2.2.1
  have hts := S.2.2.2.2
  generalize va_A _ s.heap.size = A at hI hZ ⊢
  generalize hQ : MQ below _ _ s 0 0 A = Q
  have hl : lv_has ls 7 [(0, .ref (a 0)), (1, .int p1)] := hl
  have j146 : ∀ (od : bw_A1) (om : Int32) (x2 : Int32) (x3 : Int32) (k15 : bw_A1 → Int32 → Int32 → Int32 → Option (bw_A1 × Int32)) (hk15 : ∀ (H : Heap) (locs : List Loc) (ls : Array Slot) (od_ : bw_A1) (om_ : Int32) (x2_ : Int32) (x3_ : Int32), k15 od_ om_ x2_ x3_ = some (od', om') → bw_I G A s.heap (bw_mW cy a z rows asd sm buf bm th od_ om_ ow ca bo la pl to rd hh) H locs → lv_has ls 7 [(0, .ref (a 0)), (2, .int x2_), (3, .int x3_)] → W p l e (bw_rm 4 85) s m [.ref (a 0), .int p1].toArray below meth c H locs 0 0 Q (F0 m 15 ls [])) (H : Heap) (locs : List Loc) (ls : Array Slot), jX6_layOrder_146 k15 z od om x2 x3 = some (od', om') → bw_I G A s.heap (bw_mW cy a z rows asd sm buf bm th od om ow ca bo la pl to rd hh) H locs → lv_has ls 7 [(0, .ref (a 0)), (2, .int x2), (3, .int x3)] → W p l e (bw_rm 4 85) s m [.ref (a 0), .int p1].toArray below meth c H locs 0 0 Q (F0 m 146 ls []) := by
    intro od om x2 x3 k15 hk15 H locs ls h hI hl
    unfold jX6_layOrder_146 at h
    refine lv_goto (tgt := 15) hx hb dX6_layOrder_146 (by decide) ?_
    exact hk15 _ _ _ od om x2 x3 h hI (lv_sub hl [0,1,2] rfl)
  have j113 : ∀ (od : bw_A1) (om : Int32) (x2 : Int32) (x4 : Int32) (s0 : Int32) (k15 : bw_A1 → Int32 → Int32 → Int32 → Option (bw_A1 × Int32)) (hk15 : ∀ (H : Heap) (locs : List Loc) (ls : Array Slot) (od_ : bw_A1) (om_ : Int32) (x2_ : Int32) (x3_ : Int32), k15 od_ om_ x2_ x3_ = some (od', om') → bw_I G A s.heap (bw_mW cy a z rows asd sm buf bm th od_ om_ ow ca bo la pl to rd hh) H locs → lv_has ls 7 [(0, .ref (a 0)), (2, .int x2_), (3, .int x3_)] → W p l e (bw_rm 4 85) s m [.ref (a 0), .int p1].toArray below meth c H locs 0 0 Q (F0 m 15 ls [])) (H : Heap) (locs : List Loc) (ls : Array Slot), jX6_layOrder_113 k15 z od om x2 x4 s0 = some (od', om') → bw_I G A s.heap (bw_mW cy a z rows asd sm buf bm th od om ow ca bo la pl to rd hh) H locs → lv_has ls 7 [(0, .ref (a 0)), (2, .int x2), (4, .int x4)] → W p l e (bw_rm 4 85) s m [.ref (a 0), .int p1].toArray below meth c H locs 0 0 Q (F0 m 113 ls [.int s0]) := by
    intro od om x2 x4 s0 k15 hk15 H locs ls h hI hl
    unfold jX6_layOrder_113 at h
    refine lv_istore_n (lv' := [(3, .int s0), (0, .ref (a 0)), (2, .int x2), (4, .int x4)]) hx hb dX6_layOrder_113 rfl hl (by decide) rfl (fun ls hl => ?_)
    refine lv_iload_n hx hb dX6_layOrder_114 rfl (lv_at hl 0 rfl) ?_
    refine lv_if_eq (tgt := 146) hx hb dX6_layOrder_115 (by decide) (fun c_115 => ?_) (fun c_115 => ?_)
    · rw [if_pos c_115] at h
      exact j146 od om x2 s0 k15 hk15 _ _ _ h hI (lv_sub hl [1,2,0] rfl)
    rw [if_neg c_115] at h
    refine lv_aload_n hx hb dX6_layOrder_118 rfl (lv_at hl 1 rfl) ?_
    refine bw_get S hK hI 0 7 rfl rfl (by decide) i_X6 f_X6_22 rfl dX6_layOrder_119 ?_
    refine lv_aload_n hx hb dX6_layOrder_122 rfl (lv_at hl 1 rfl) ?_
    refine bw_get S hK hI 0 8 rfl rfl (by decide) i_X6 f_X6_74 rfl dX6_layOrder_123 ?_
    refine lv_iload hx hb dX6_layOrder_126 (lv_at hl 3 rfl) ?_
    obtain ⟨od_128, hv, h⟩ := bw_b1_e h
    refine bw_iast hx hb hK hI 5 (ws' := (bw_mW cy a z rows asd sm buf bm th od_128 om ow ca bo la pl to rd hh)) hv rfl rfl dX6_layOrder_128 (fun H locs hI => ?_)
    refine lv_aload_n hx hb dX6_layOrder_129 rfl (lv_at hl 1 rfl) ?_
    refine lv_dup hx hb dX6_layOrder_130 rfl ?_
    refine bw_get S hK hI 0 8 rfl rfl (by decide) i_X6 f_X6_74 rfl dX6_layOrder_131 ?_
    refine lv_iconst (v := 1) hx hb dX6_layOrder_134 rfl ?_
    refine lv_iadd hx hb dX6_layOrder_135 ?_
    refine lv_topi (fun om_136 e_136 => ?_)
    have h := bw_let_e h e_136
    clear e_136
    refine bw_put S hK hI 0 8 (ws' := (bw_mW cy a z rows asd sm buf bm th od_128 om_136 ow ca bo la pl to rd hh)) tyX6 tyX6_ok nmX6 rfl rfl (by decide) i_X6 f_X6_74 rfl rfl rfl rfl (Nat.le_of_ble_eq_true rfl) rfl dX6_layOrder_136 (fun H locs hI => ?_)
    refine lv_iload_n hx hb dX6_layOrder_139 rfl (lv_at hl 2 rfl) ?_
    refine lv_iconst (v := 1) hx hb dX6_layOrder_140 rfl ?_
    refine lv_iload hx hb dX6_layOrder_141 (lv_at hl 3 rfl) ?_
    refine lv_ishl hx hb dX6_layOrder_143 ?_
    refine lv_ior hx hb dX6_layOrder_144 ?_
    refine lv_topi (fun x2_145 e_145 => ?_)
    have h := bw_let_e h e_145
    clear e_145
    refine lv_istore_n (lv' := [(2, .int x2_145), (3, .int s0), (0, .ref (a 0)), (4, .int x4)]) hx hb dX6_layOrder_145 rfl hl (by decide) rfl (fun ls hl => ?_)
    exact j146 od_128 om_136 x2_145 s0 k15 hk15 _ _ _ h hI (lv_sub hl [2,0,1] rfl)
  have j94 : ∀ (od : bw_A1) (om : Int32) (x2 : Int32) (x5 : Int32) (s0 : Int32) (k15 : bw_A1 → Int32 → Int32 → Int32 → Option (bw_A1 × Int32)) (hk15 : ∀ (H : Heap) (locs : List Loc) (ls : Array Slot) (od_ : bw_A1) (om_ : Int32) (x2_ : Int32) (x3_ : Int32), k15 od_ om_ x2_ x3_ = some (od', om') → bw_I G A s.heap (bw_mW cy a z rows asd sm buf bm th od_ om_ ow ca bo la pl to rd hh) H locs → lv_has ls 7 [(0, .ref (a 0)), (2, .int x2_), (3, .int x3_)] → W p l e (bw_rm 4 85) s m [.ref (a 0), .int p1].toArray below meth c H locs 0 0 Q (F0 m 15 ls [])) (k25 : Int32 → Int32 → Option (bw_A1 × Int32)) (hk25 : ∀ (H : Heap) (locs : List Loc) (ls : Array Slot) (x4_ : Int32) (x5_ : Int32), k25 x4_ x5_ = some (od', om') → bw_I G A s.heap (bw_mW cy a z rows asd sm buf bm th od om ow ca bo la pl to rd hh) H locs → lv_has ls 7 [(0, .ref (a 0)), (2, .int x2), (4, .int x4_), (5, .int x5_)] → W p l e (bw_rm 4 85) s m [.ref (a 0), .int p1].toArray below meth c H locs 0 0 Q (F0 m 25 ls [])) (H : Heap) (locs : List Loc) (ls : Array Slot), jX6_layOrder_94 k15 k25 z od om x2 x5 s0 = some (od', om') → bw_I G A s.heap (bw_mW cy a z rows asd sm buf bm th od om ow ca bo la pl to rd hh) H locs → lv_has ls 7 [(0, .ref (a 0)), (2, .int x2), (5, .int x5)] → W p l e (bw_rm 4 85) s m [.ref (a 0), .int p1].toArray below meth c H locs 0 0 Q (F0 m 94 ls [.int s0]) := by
    intro od om x2 x5 s0 k15 hk15 k25 hk25 H locs ls h hI hl
    unfold jX6_layOrder_94 at h
    refine lv_istore (lv' := [(4, .int s0), (0, .ref (a 0)), (2, .int x2), (5, .int x5)]) hx hb dX6_layOrder_94 hl (by decide) rfl (fun ls hl => ?_)
    obtain ⟨x5_96, e_96⟩ : ∃ y : Int32, y = x5 + 1 := ⟨_, rfl⟩
    have h := bw_let_e h e_96
    refine lv_iinc (v := x5_96) (lv' := [(5, .int x5_96), (4, .int s0), (0, .ref (a 0)), (2, .int x2)]) hx hb dX6_layOrder_96 hl (k := 3) rfl (by rw [e_96]; rfl) (by decide) rfl (fun ls hl => ?_)
    clear e_96
    refine lv_goto (tgt := 25) hx hb dX6_layOrder_99 (by decide) ?_
    exact hk25 _ _ _ s0 x5_96 h hI (lv_sub hl [2,3,1,0] rfl)
  have j92 : ∀ (od : bw_A1) (om : Int32) (x2 : Int32) (x4 : Int32) (x5 : Int32) (k15 : bw_A1 → Int32 → Int32 → Int32 → Option (bw_A1 × Int32)) (hk15 : ∀ (H : Heap) (locs : List Loc) (ls : Array Slot) (od_ : bw_A1) (om_ : Int32) (x2_ : Int32) (x3_ : Int32), k15 od_ om_ x2_ x3_ = some (od', om') → bw_I G A s.heap (bw_mW cy a z rows asd sm buf bm th od_ om_ ow ca bo la pl to rd hh) H locs → lv_has ls 7 [(0, .ref (a 0)), (2, .int x2_), (3, .int x3_)] → W p l e (bw_rm 4 85) s m [.ref (a 0), .int p1].toArray below meth c H locs 0 0 Q (F0 m 15 ls [])) (k25 : Int32 → Int32 → Option (bw_A1 × Int32)) (hk25 : ∀ (H : Heap) (locs : List Loc) (ls : Array Slot) (x4_ : Int32) (x5_ : Int32), k25 x4_ x5_ = some (od', om') → bw_I G A s.heap (bw_mW cy a z rows asd sm buf bm th od om ow ca bo la pl to rd hh) H locs → lv_has ls 7 [(0, .ref (a 0)), (2, .int x2), (4, .int x4_), (5, .int x5_)] → W p l e (bw_rm 4 85) s m [.ref (a 0), .int p1].toArray below meth c H locs 0 0 Q (F0 m 25 ls [])) (H : Heap) (locs : List Loc) (ls : Array Slot), jX6_layOrder_92 k15 k25 z od om x2 x4 x5 = some (od', om') → bw_I G A s.heap (bw_mW cy a z rows asd sm buf bm th od om ow ca bo la pl to rd hh) H locs → lv_has ls 7 [(0, .ref (a 0)), (2, .int x2), (4, .int x4), (5, .int x5)] → W p l e (bw_rm 4 85) s m [.ref (a 0), .int p1].toArray below meth c H locs 0 0 Q (F0 m 92 ls []) := by
    intro od om x2 x4 x5 k15 hk15 k25 hk25 H locs ls h hI hl
    unfold jX6_layOrder_92 at h
    refine lv_iload hx hb dX6_layOrder_92 (lv_at hl 2 rfl) ?_
    exact j94 od om x2 x5 x4 k15 hk15 k25 hk25 _ _ _ h hI (lv_sub hl [0,1,3] rfl)
  have j87 : ∀ (od : bw_A1) (om : Int32) (x2 : Int32) (x5 : Int32) (k15 : bw_A1 → Int32 → Int32 → Int32 → Option (bw_A1 × Int32)) (hk15 : ∀ (H : Heap) (locs : List Loc) (ls : Array Slot) (od_ : bw_A1) (om_ : Int32) (x2_ : Int32) (x3_ : Int32), k15 od_ om_ x2_ x3_ = some (od', om') → bw_I G A s.heap (bw_mW cy a z rows asd sm buf bm th od_ om_ ow ca bo la pl to rd hh) H locs → lv_has ls 7 [(0, .ref (a 0)), (2, .int x2_), (3, .int x3_)] → W p l e (bw_rm 4 85) s m [.ref (a 0), .int p1].toArray below meth c H locs 0 0 Q (F0 m 15 ls [])) (k25 : Int32 → Int32 → Option (bw_A1 × Int32)) (hk25 : ∀ (H : Heap) (locs : List Loc) (ls : Array Slot) (x4_ : Int32) (x5_ : Int32), k25 x4_ x5_ = some (od', om') → bw_I G A s.heap (bw_mW cy a z rows asd sm buf bm th od om ow ca bo la pl to rd hh) H locs → lv_has ls 7 [(0, .ref (a 0)), (2, .int x2), (4, .int x4_), (5, .int x5_)] → W p l e (bw_rm 4 85) s m [.ref (a 0), .int p1].toArray below meth c H locs 0 0 Q (F0 m 25 ls [])) (H : Heap) (locs : List Loc) (ls : Array Slot), jX6_layOrder_87 k15 k25 z od om x2 x5 = some (od', om') → bw_I G A s.heap (bw_mW cy a z rows asd sm buf bm th od om ow ca bo la pl to rd hh) H locs → lv_has ls 7 [(0, .ref (a 0)), (2, .int x2), (5, .int x5)] → W p l e (bw_rm 4 85) s m [.ref (a 0), .int p1].toArray below meth c H locs 0 0 Q (F0 m 87 ls []) := by
    intro od om x2 x5 k15 hk15 k25 hk25 H locs ls h hI hl
    unfold jX6_layOrder_87 at h
    refine lv_iload hx hb dX6_layOrder_87 (lv_at hl 2 rfl) ?_
    refine lv_goto (tgt := 94) hx hb dX6_layOrder_89 (by decide) ?_
    exact j94 od om x2 x5 x5 k15 hk15 k25 hk25 _ _ _ h hI (lv_sub hl [0,1,2] rfl)
  have j59 : ∀ (od : bw_A1) (om : Int32) (x2 : Int32) (x4 : Int32) (x5 : Int32) (s0 : Int32) (k15 : bw_A1 → Int32 → Int32 → Int32 → Option (bw_A1 × Int32)) (hk15 : ∀ (H : Heap) (locs : List Loc) (ls : Array Slot) (od_ : bw_A1) (om_ : Int32) (x2_ : Int32) (x3_ : Int32), k15 od_ om_ x2_ x3_ = some (od', om') → bw_I G A s.heap (bw_mW cy a z rows asd sm buf bm th od_ om_ ow ca bo la pl to rd hh) H locs → lv_has ls 7 [(0, .ref (a 0)), (2, .int x2_), (3, .int x3_)] → W p l e (bw_rm 4 85) s m [.ref (a 0), .int p1].toArray below meth c H locs 0 0 Q (F0 m 15 ls [])) (k25 : Int32 → Int32 → Option (bw_A1 × Int32)) (hk25 : ∀ (H : Heap) (locs : List Loc) (ls : Array Slot) (x4_ : Int32) (x5_ : Int32), k25 x4_ x5_ = some (od', om') → bw_I G A s.heap (bw_mW cy a z rows asd sm buf bm th od om ow ca bo la pl to rd hh) H locs → lv_has ls 7 [(0, .ref (a 0)), (2, .int x2), (4, .int x4_), (5, .int x5_)] → W p l e (bw_rm 4 85) s m [.ref (a 0), .int p1].toArray below meth c H locs 0 0 Q (F0 m 25 ls [])) (H : Heap) (locs : List Loc) (ls : Array Slot), jX6_layOrder_59 k15 k25 z od om x2 x4 x5 s0 = some (od', om') → bw_I G A s.heap (bw_mW cy a z rows asd sm buf bm th od om ow ca bo la pl to rd hh) H locs → lv_has ls 7 [(0, .ref (a 0)), (2, .int x2), (4, .int x4), (5, .int x5)] → W p l e (bw_rm 4 85) s m [.ref (a 0), .int p1].toArray below meth c H locs 0 0 Q (F0 m 59 ls [.int s0]) := by
    intro od om x2 x4 x5 s0 k15 hk15 k25 hk25 H locs ls h hI hl
    unfold jX6_layOrder_59 at h
    refine lv_istore (lv' := [(6, .int s0), (0, .ref (a 0)), (2, .int x2), (4, .int x4), (5, .int x5)]) hx hb dX6_layOrder_59 hl (by decide) rfl (fun ls hl => ?_)
    refine lv_iload hx hb dX6_layOrder_61 (lv_at hl 0 rfl) ?_
    refine lv_if_eq (tgt := 92) hx hb dX6_layOrder_63 (by decide) (fun c_63 => ?_) (fun c_63 => ?_)
    · rw [if_pos c_63] at h
      exact j92 od om x2 x4 x5 k15 hk15 k25 hk25 _ _ _ h hI (lv_sub hl [1,2,3,4] rfl)
    rw [if_neg c_63] at h
    refine lv_iload hx hb dX6_layOrder_66 (lv_at hl 3 rfl) ?_
    refine lv_iconst (v := (-1)) hx hb dX6_layOrder_68 rfl ?_
    refine lv_icmp_eq (tgt := 87) hx hb dX6_layOrder_69 (by decide) (fun c_69 => ?_) (fun c_69 => ?_)
    · rw [if_pos c_69] at h
      exact j87 od om x2 x5 k15 hk15 k25 hk25 _ _ _ h hI (lv_sub hl [1,2,4] rfl)
    rw [if_neg c_69] at h
    refine lv_aload_n hx hb dX6_layOrder_72 rfl (lv_at hl 1 rfl) ?_
    refine lv_iload hx hb dX6_layOrder_73 (lv_at hl 4 rfl) ?_
    obtain ⟨r75, hc, h⟩ := bw_b1_e h
    refine bw_callV S hK hZ hI (mX6_merit l G cy g a z rows asd sm buf bm th od om ow ca bo la pl to rd hh x5 r75 hc) Y_X6_merit V_X6_merit l_X6_77 ⟨(Nat.le_of_ble_eq_true rfl), (Nat.le_of_ble_eq_true rfl)⟩ (q0 := 0) rfl rfl rfl (ws' := (bw_mW cy a z rows asd sm buf bm th od om ow ca bo la pl to rd hh)) (bw_pS _) (bw_pS' _) rfl rfl hl.1 (rest := []) (st1 := [.int r75]) rfl rfl (Nat.le_of_ble_eq_true rfl) dX6_layOrder_75 ⟨Nat.le_refl _, Nat.le_refl _⟩ (fun H locs hI => ?_)
    refine lv_aload_n hx hb dX6_layOrder_78 rfl (lv_at hl 1 rfl) ?_
    refine lv_iload hx hb dX6_layOrder_79 (lv_at hl 3 rfl) ?_
    obtain ⟨r81, hc, h⟩ := bw_b1_e h
    refine bw_callV S hK hZ hI (mX6_merit l G cy g a z rows asd sm buf bm th od om ow ca bo la pl to rd hh x4 r81 hc) Y_X6_merit V_X6_merit l_X6_77 ⟨(Nat.le_of_ble_eq_true rfl), (Nat.le_of_ble_eq_true rfl)⟩ (q0 := 0) rfl rfl rfl (ws' := (bw_mW cy a z rows asd sm buf bm th od om ow ca bo la pl to rd hh)) (bw_pS _) (bw_pS' _) rfl rfl hl.1 (rest := [.int r75]) (st1 := [.int r81, .int r75]) rfl rfl (Nat.le_of_ble_eq_true rfl) dX6_layOrder_81 ⟨Nat.le_refl _, Nat.le_refl _⟩ (fun H locs hI => ?_)
    refine lv_icmp_le (tgt := 92) hx hb dX6_layOrder_84 (by decide) (fun c_84 => ?_) (fun c_84 => ?_)
    · rw [if_pos c_84] at h
      exact j92 od om x2 x4 x5 k15 hk15 k25 hk25 _ _ _ h hI (lv_sub hl [1,2,3,4] rfl)
    rw [if_neg c_84] at h
    exact j87 od om x2 x5 k15 hk15 k25 hk25 _ _ _ h hI (lv_sub hl [1,2,4] rfl)
  have j58 : ∀ (od : bw_A1) (om : Int32) (x2 : Int32) (x4 : Int32) (x5 : Int32) (k15 : bw_A1 → Int32 → Int32 → Int32 → Option (bw_A1 × Int32)) (hk15 : ∀ (H : Heap) (locs : List Loc) (ls : Array Slot) (od_ : bw_A1) (om_ : Int32) (x2_ : Int32) (x3_ : Int32), k15 od_ om_ x2_ x3_ = some (od', om') → bw_I G A s.heap (bw_mW cy a z rows asd sm buf bm th od_ om_ ow ca bo la pl to rd hh) H locs → lv_has ls 7 [(0, .ref (a 0)), (2, .int x2_), (3, .int x3_)] → W p l e (bw_rm 4 85) s m [.ref (a 0), .int p1].toArray below meth c H locs 0 0 Q (F0 m 15 ls [])) (k25 : Int32 → Int32 → Option (bw_A1 × Int32)) (hk25 : ∀ (H : Heap) (locs : List Loc) (ls : Array Slot) (x4_ : Int32) (x5_ : Int32), k25 x4_ x5_ = some (od', om') → bw_I G A s.heap (bw_mW cy a z rows asd sm buf bm th od om ow ca bo la pl to rd hh) H locs → lv_has ls 7 [(0, .ref (a 0)), (2, .int x2), (4, .int x4_), (5, .int x5_)] → W p l e (bw_rm 4 85) s m [.ref (a 0), .int p1].toArray below meth c H locs 0 0 Q (F0 m 25 ls [])) (H : Heap) (locs : List Loc) (ls : Array Slot), jX6_layOrder_58 k15 k25 z od om x2 x4 x5 = some (od', om') → bw_I G A s.heap (bw_mW cy a z rows asd sm buf bm th od om ow ca bo la pl to rd hh) H locs → lv_has ls 7 [(0, .ref (a 0)), (2, .int x2), (4, .int x4), (5, .int x5)] → W p l e (bw_rm 4 85) s m [.ref (a 0), .int p1].toArray below meth c H locs 0 0 Q (F0 m 58 ls []) := by
    intro od om x2 x4 x5 k15 hk15 k25 hk25 H locs ls h hI hl
    unfold jX6_layOrder_58 at h
    refine lv_iconst (v := 0) hx hb dX6_layOrder_58 rfl ?_
    exact j59 od om x2 x4 x5 0 k15 hk15 k25 hk25 _ _ _ h hI (lv_sub hl [0,1,2,3] rfl)
  have l25 : ∀ (od : bw_A1) (om : Int32) (x2 : Int32) (k15 : bw_A1 → Int32 → Int32 → Int32 → Option (bw_A1 × Int32)) (hk15 : ∀ (H : Heap) (locs : List Loc) (ls : Array Slot) (od_ : bw_A1) (om_ : Int32) (x2_ : Int32) (x3_ : Int32), k15 od_ om_ x2_ x3_ = some (od', om') → bw_I G A s.heap (bw_mW cy a z rows asd sm buf bm th od_ om_ ow ca bo la pl to rd hh) H locs → lv_has ls 7 [(0, .ref (a 0)), (2, .int x2_), (3, .int x3_)] → W p l e (bw_rm 4 85) s m [.ref (a 0), .int p1].toArray below meth c H locs 0 0 Q (F0 m 15 ls [])) (n : Nat) (H : Heap) (locs : List Loc) (ls : Array Slot) (x4 : Int32) (x5 : Int32), lX6_layOrder_25 k15 z od om x2 n x4 x5 = some (od', om') → bw_I G A s.heap (bw_mW cy a z rows asd sm buf bm th od om ow ca bo la pl to rd hh) H locs → lv_has ls 7 [(0, .ref (a 0)), (2, .int x2), (4, .int x4), (5, .int x5)] → W p l e (bw_rm 4 85) s m [.ref (a 0), .int p1].toArray below meth c H locs 0 0 Q (F0 m 25 ls []) := by
    intro od om x2 k15 hk15 n
    induction n with
    | zero => intro H locs ls x4 x5 h; exact bw_none h
    | succ n ih =>
      intro H locs ls x4 x5 h hI hl
      have h : bX6_layOrder_25 k15 (lX6_layOrder_25 k15 z od om x2 n) z od om x2 x4 x5 = some (od', om') := h
      unfold bX6_layOrder_25 at h
      refine lv_iload hx hb dX6_layOrder_25 (lv_at hl 3 rfl) ?_
      refine lv_aload_n hx hb dX6_layOrder_27 rfl (lv_at hl 0 rfl) ?_
      refine bw_get S hK hI 0 0 rfl rfl (by decide) i_X6 f_X6_7 rfl dX6_layOrder_28 ?_
      refine lv_iconst (v := 0) hx hb dX6_layOrder_31 rfl ?_
      obtain ⟨v32, hv, h⟩ := bw_b1_e h
      refine bw_iald hx hb hK hI 1 hv rfl dX6_layOrder_32 ?_
      refine lv_icmp_ge (tgt := 102) hx hb dX6_layOrder_33 (by decide) (fun c_33 => ?_) (fun c_33 => ?_)
      · rw [if_pos c_33] at h
        refine lv_iload hx hb dX6_layOrder_102 (lv_at hl 2 rfl) ?_
        refine lv_iconst (v := (-1)) hx hb dX6_layOrder_104 rfl ?_
        refine lv_icmp_eq (tgt := 112) hx hb dX6_layOrder_105 (by decide) (fun c_105 => ?_) (fun c_105 => ?_)
        · rw [if_pos c_105] at h
          refine lv_iconst (v := 0) hx hb dX6_layOrder_112 rfl ?_
          exact j113 od om x2 x4 0 k15 hk15 _ _ _ h hI (lv_sub hl [0,1,2] rfl)
        rw [if_neg c_105] at h
        refine lv_iconst (v := 1) hx hb dX6_layOrder_108 rfl ?_
        refine lv_goto (tgt := 113) hx hb dX6_layOrder_109 (by decide) ?_
        exact j113 od om x2 x4 1 k15 hk15 _ _ _ h hI (lv_sub hl [0,1,2] rfl)
      rw [if_neg c_33] at h
      refine lv_iload_n hx hb dX6_layOrder_36 rfl (lv_at hl 1 rfl) ?_
      refine lv_iload hx hb dX6_layOrder_37 (lv_at hl 3 rfl) ?_
      refine lv_ishr hx hb dX6_layOrder_39 ?_
      refine lv_iconst (v := 1) hx hb dX6_layOrder_40 rfl ?_
      refine lv_iand hx hb dX6_layOrder_41 ?_
      refine lv_if_ne (tgt := 58) hx hb dX6_layOrder_42 (by decide) (fun c_42 => ?_) (fun c_42 => ?_)
      · rw [if_neg c_42] at h
        exact j58 od om x2 x4 x5 k15 hk15 (lX6_layOrder_25 k15 z od om x2 n) ih _ _ _ h hI (lv_sub hl [0,1,2,3] rfl)
      rw [if_pos c_42] at h
      refine lv_aload_n hx hb dX6_layOrder_45 rfl (lv_at hl 0 rfl) ?_
      refine lv_iload hx hb dX6_layOrder_46 (lv_at hl 3 rfl) ?_
      obtain ⟨r48, hc, h⟩ := bw_b1_e h
      refine bw_callV S hK hZ hI (mX6_canLend l G cy g a z rows asd sm buf bm th od om ow ca bo la pl to rd hh x5 r48 hc) Y_X6_canLend V_X6_canLend l_X6_68 ⟨(Nat.le_of_ble_eq_true rfl), (Nat.le_of_ble_eq_true rfl)⟩ (q0 := 0) rfl rfl rfl (ws' := (bw_mW cy a z rows asd sm buf bm th od om ow ca bo la pl to rd hh)) (bw_pS _) (bw_pS' _) rfl rfl hl.1 (rest := []) (st1 := [.int r48]) rfl rfl (Nat.le_of_ble_eq_true rfl) dX6_layOrder_48 ⟨Nat.le_refl _, Nat.le_refl _⟩ (fun H locs hI => ?_)
      refine lv_if_le (tgt := 58) hx hb dX6_layOrder_51 (by decide) (fun c_51 => ?_) (fun c_51 => ?_)
      · rw [if_pos c_51] at h
        exact j58 od om x2 x4 x5 k15 hk15 (lX6_layOrder_25 k15 z od om x2 n) ih _ _ _ h hI (lv_sub hl [0,1,2,3] rfl)
      rw [if_neg c_51] at h
      refine lv_iconst (v := 1) hx hb dX6_layOrder_54 rfl ?_
      refine lv_goto (tgt := 59) hx hb dX6_layOrder_55 (by decide) ?_
      exact j59 od om x2 x4 x5 1 k15 hk15 (lX6_layOrder_25 k15 z od om x2 n) ih _ _ _ h hI (lv_sub hl [0,1,2,3] rfl)
  have l15 : ∀  (n : Nat) (H : Heap) (locs : List Loc) (ls : Array Slot) (od : bw_A1) (om : Int32) (x2 : Int32) (x3 : Int32), lX6_layOrder_15 z n od om x2 x3 = some (od', om') → bw_I G A s.heap (bw_mW cy a z rows asd sm buf bm th od om ow ca bo la pl to rd hh) H locs → lv_has ls 7 [(0, .ref (a 0)), (2, .int x2), (3, .int x3)] → W p l e (bw_rm 4 85) s m [.ref (a 0), .int p1].toArray below meth c H locs 0 0 Q (F0 m 15 ls []) := by
    intro  n
    induction n with
    | zero => intro H locs ls od om x2 x3 h; exact bw_none h
    | succ n ih =>
      intro H locs ls od om x2 x3 h hI hl
      have h : bX6_layOrder_15  (lX6_layOrder_15 z n) z od om x2 x3 = some (od', om') := h
      unfold bX6_layOrder_15 at h
      refine lv_iload_n hx hb dX6_layOrder_15 rfl (lv_at hl 2 rfl) ?_
      refine lv_if_eq (tgt := 149) hx hb dX6_layOrder_16 (by decide) (fun c_16 => ?_) (fun c_16 => ?_)
      · rw [if_pos c_16] at h
        subst hQ
        exact bw_vret S hr hlocks h (fun q : (bw_A1 × Int32) => (bw_mW cy a z rows asd sm buf bm th q.1 q.2 ow ca bo la pl to rd hh)) hI dX6_layOrder_149
      rw [if_neg c_16] at h
      refine lv_iconst (v := (-1)) hx hb dX6_layOrder_19 rfl ?_
      refine lv_istore (lv' := [(4, .int (-1)), (0, .ref (a 0)), (2, .int x2), (3, .int x3)]) hx hb dX6_layOrder_20 hl (by decide) rfl (fun ls hl => ?_)
      refine lv_iconst (v := 0) hx hb dX6_layOrder_22 rfl ?_
      refine lv_istore (lv' := [(5, .int 0), (4, .int (-1)), (0, .ref (a 0)), (2, .int x2), (3, .int x3)]) hx hb dX6_layOrder_23 hl (by decide) rfl (fun ls hl => ?_)
      exact l25 od om x2 (lX6_layOrder_15 z n) ih bw_fu _ _ _ (-1) 0 h hI (lv_sub hl [2,3,1,0] rfl)
  unfold fX6_layOrder at h
  refine lv_iconst (v := 1) hx hb dX6_layOrder_0 rfl ?_
  refine lv_iload_n hx hb dX6_layOrder_1 rfl (lv_at hl 1 rfl) ?_
  refine lv_ishl hx hb dX6_layOrder_2 ?_
  refine lv_topi (fun x2_3 e_3 => ?_)
  have h := bw_let_e h e_3
  clear e_3
  refine lv_istore_n (lv' := [(2, .int x2_3), (0, .ref (a 0)), (1, .int p1)]) hx hb dX6_layOrder_3 rfl hl (by decide) rfl (fun ls hl => ?_)
  refine lv_aload_n hx hb dX6_layOrder_4 rfl (lv_at hl 1 rfl) ?_
  refine lv_iconst (v := 0) hx hb dX6_layOrder_5 rfl ?_
  refine bw_put S hK hI 0 8 (ws' := (bw_mW cy a z rows asd sm buf bm th od 0 ow ca bo la pl to rd hh)) tyX6 tyX6_ok nmX6 rfl rfl (by decide) i_X6 f_X6_74 rfl rfl rfl rfl (Nat.le_of_ble_eq_true rfl) rfl dX6_layOrder_6 (fun H locs hI => ?_)
  refine lv_aload_n hx hb dX6_layOrder_9 rfl (lv_at hl 1 rfl) ?_
  refine lv_iload_n hx hb dX6_layOrder_10 rfl (lv_at hl 2 rfl) ?_
  obtain ⟨r11, hc, h⟩ := bw_b1_e h
  refine bw_callV S hK hZ hI (mX6_isOpen l G cy g a z rows asd sm buf bm th od 0 ow ca bo la pl to rd hh p1 r11 hc) Y_X6_isOpen V_X6_isOpen l_X6_43 ⟨(Nat.le_of_ble_eq_true rfl), (Nat.le_of_ble_eq_true rfl)⟩ (q0 := 0) rfl rfl rfl (ws' := (bw_mW cy a z rows asd sm buf bm th od 0 ow ca bo la pl to rd hh)) (bw_pS _) (bw_pS' _) rfl rfl hl.1 (rest := []) (st1 := [.int r11]) rfl rfl (Nat.le_of_ble_eq_true rfl) dX6_layOrder_11 ⟨Nat.le_refl _, Nat.le_refl _⟩ (fun H locs hI => ?_)
  refine lv_istore_n (lv' := [(3, .int r11), (2, .int x2_3), (0, .ref (a 0)), (1, .int p1)]) hx hb dX6_layOrder_14 rfl hl (by decide) rfl (fun ls hl => ?_)
  exact l15  bw_fu _ _ _ od 0 x2_3 r11 h hI (lv_sub hl [2,1,0] rfl)
set_option maxHeartbeats 4000000 in
set_option maxRecDepth 100000 in
theorem mX6_callBack (l : Launch) (G : va_G) (cy : Nat → ClassId) (g : Nat) (a : Nat → Nat) (z : bw_A1) (rows : bw_A1) (asd : bw_A1) (sm : Int32) (buf : bw_A1) (bm : Int32) (th : Int32) (od : bw_A1) (om : Int32) (ow : Int32) (ca : Int32) (bo : Int32) (la : Int32) (pl : Int32) (to : Int32) (rd : bw_A1) (hh : Int64) (p1 : Int32) (p2 : Int32) (z' : bw_A1) (ca' : Int32) (h : fX6_callBack z ca p1 p2 = some (z', ca')) : bw_M l yX6_callBack cX6_callBack 8 none 3 64 G cy g [.ref (a 0), .int p1, .int p2] (bw_mW cy a z rows asd sm buf bm th od om ow ca bo la pl to rd hh) none (bw_mW cy a z' rows asd sm buf bm th od om ow ca' bo la pl to rd hh) := by
  refine bw_ofW (by decide +kernel) RX6 rfl (Nat.le_of_ble_eq_true rfl) ?_
  intro p e s m below meth c ls S hr hlocks hK hZ hI hl
  have hx := S.1
  have hb := S.2.1
  have hown := S.2.2.2.1
  have hts := S.2.2.2.2
  generalize va_A _ s.heap.size = A at hI hZ ⊢
  generalize hQ : MQ below _ _ s 0 0 A = Q
  have hl : lv_has ls 8 [(0, .ref (a 0)), (1, .int p1), (2, .int p2)] := hl
  have j153 : ∀ (z : bw_A1) (ca : Int32) (x2 : Int32) (x3 : Int32) (H : Heap) (locs : List Loc) (ls : Array Slot), jX6_callBack_153 z ca x2 x3 = some (z', ca') → bw_I G A s.heap (bw_mW cy a z rows asd sm buf bm th od om ow ca bo la pl to rd hh) H locs → lv_has ls 8 [(0, .ref (a 0)), (2, .int x2), (3, .int x3)] → W p l e (bw_rm 3 64) s m [.ref (a 0), .int p1, .int p2].toArray below meth c H locs 0 0 Q (F0 m 153 ls []) := by
    intro z ca x2 x3 H locs ls h hI hl
    unfold jX6_callBack_153 at h
    refine lv_aload_n hx hb dX6_callBack_153 rfl (lv_at hl 0 rfl) ?_
    refine lv_iload_n hx hb dX6_callBack_154 rfl (lv_at hl 1 rfl) ?_
    refine lv_iload_n hx hb dX6_callBack_155 rfl (lv_at hl 2 rfl) ?_
    refine lv_isub hx hb dX6_callBack_156 ?_
    refine lv_topi (fun ca_157 e_157 => ?_)
    have h := bw_let_e h e_157
    clear e_157
    refine bw_put S hK hI 0 10 (ws' := (bw_mW cy a z rows asd sm buf bm th od om ow ca_157 bo la pl to rd hh)) tyX6 tyX6_ok nmX6 rfl rfl (by decide) i_X6 f_X6_80 rfl rfl rfl rfl (Nat.le_of_ble_eq_true rfl) rfl dX6_callBack_157 (fun H locs hI => ?_)
    subst hQ
    exact bw_vret S hr hlocks h (fun q : (bw_A1 × Int32) => (bw_mW cy a q.1 rows asd sm buf bm th od om ow q.2 bo la pl to rd hh)) hI dX6_callBack_160
  have j147 : ∀ (z : bw_A1) (ca : Int32) (x1 : Int32) (x2 : Int32) (x3 : Int32) (s0 : Int32) (s1 : Int32) (k5 : bw_A1 → Int32 → Int32 → Option (bw_A1 × Int32)) (hk5 : ∀ (H : Heap) (locs : List Loc) (ls : Array Slot) (z_ : bw_A1) (x3_ : Int32) (x4_ : Int32), k5 z_ x3_ x4_ = some (z', ca') → bw_I G A s.heap (bw_mW cy a z_ rows asd sm buf bm th od om ow ca bo la pl to rd hh) H locs → lv_has ls 8 [(0, .ref (a 0)), (1, .int x1), (2, .int x2), (3, .int x3_), (4, .int x4_)] → W p l e (bw_rm 3 64) s m [.ref (a 0), .int p1, .int p2].toArray below meth c H locs 0 0 Q (F0 m 5 ls [])) (H : Heap) (locs : List Loc) (ls : Array Slot), jX6_callBack_147 k5 z ca x1 x2 x3 s0 s1 = some (z', ca') → bw_I G A s.heap (bw_mW cy a z rows asd sm buf bm th od om ow ca bo la pl to rd hh) H locs → lv_has ls 8 [(0, .ref (a 0)), (1, .int x1), (2, .int x2), (3, .int x3)] → W p l e (bw_rm 3 64) s m [.ref (a 0), .int p1, .int p2].toArray below meth c H locs 0 0 Q (F0 m 147 ls [.int s0, .int s1]) := by
    intro z ca x1 x2 x3 s0 s1 k5 hk5 H locs ls h hI hl
    unfold jX6_callBack_147 at h
    refine lv_iadd hx hb dX6_callBack_147 ?_
    refine lv_topi (fun x4_148 e_148 => ?_)
    have h := bw_let_e h e_148
    clear e_148
    refine lv_istore (lv' := [(4, .int x4_148), (0, .ref (a 0)), (1, .int x1), (2, .int x2), (3, .int x3)]) hx hb dX6_callBack_148 hl (by decide) rfl (fun ls hl => ?_)
    refine lv_goto (tgt := 5) hx hb dX6_callBack_150 (by decide) ?_
    exact hk5 _ _ _ z x3 x4_148 h hI (lv_sub hl [1,2,3,4,0] rfl)
  have j135 : ∀ (z : bw_A1) (ca : Int32) (x1 : Int32) (x2 : Int32) (x3 : Int32) (x4 : Int32) (x5 : Int32) (k5 : bw_A1 → Int32 → Int32 → Option (bw_A1 × Int32)) (hk5 : ∀ (H : Heap) (locs : List Loc) (ls : Array Slot) (z_ : bw_A1) (x3_ : Int32) (x4_ : Int32), k5 z_ x3_ x4_ = some (z', ca') → bw_I G A s.heap (bw_mW cy a z_ rows asd sm buf bm th od om ow ca bo la pl to rd hh) H locs → lv_has ls 8 [(0, .ref (a 0)), (1, .int x1), (2, .int x2), (3, .int x3_), (4, .int x4_)] → W p l e (bw_rm 3 64) s m [.ref (a 0), .int p1, .int p2].toArray below meth c H locs 0 0 Q (F0 m 5 ls [])) (H : Heap) (locs : List Loc) (ls : Array Slot), jX6_callBack_135 k5 z ca x1 x2 x3 x4 x5 = some (z', ca') → bw_I G A s.heap (bw_mW cy a z rows asd sm buf bm th od om ow ca bo la pl to rd hh) H locs → lv_has ls 8 [(0, .ref (a 0)), (1, .int x1), (2, .int x2), (3, .int x3), (4, .int x4), (5, .int x5)] → W p l e (bw_rm 3 64) s m [.ref (a 0), .int p1, .int p2].toArray below meth c H locs 0 0 Q (F0 m 135 ls []) := by
    intro z ca x1 x2 x3 x4 x5 k5 hk5 H locs ls h hI hl
    unfold jX6_callBack_135 at h
    refine lv_iload hx hb dX6_callBack_135 (lv_at hl 4 rfl) ?_
    refine lv_iload hx hb dX6_callBack_137 (lv_at hl 5 rfl) ?_
    refine lv_if_eq (tgt := 146) hx hb dX6_callBack_139 (by decide) (fun c_139 => ?_) (fun c_139 => ?_)
    · rw [if_pos c_139] at h
      refine lv_iconst (v := 1) hx hb dX6_callBack_146 rfl ?_
      exact j147 z ca x1 x2 x3 1 x4 k5 hk5 _ _ _ h hI (lv_sub hl [0,1,2,3] rfl)
    rw [if_neg c_139] at h
    refine lv_iconst (v := 0) hx hb dX6_callBack_142 rfl ?_
    refine lv_goto (tgt := 147) hx hb dX6_callBack_143 (by decide) ?_
    exact j147 z ca x1 x2 x3 0 x4 k5 hk5 _ _ _ h hI (lv_sub hl [0,1,2,3] rfl)
  have j106 : ∀ (z : bw_A1) (ca : Int32) (x1 : Int32) (x2 : Int32) (x3 : Int32) (x4 : Int32) (x6 : Int32) (x7 : Int32) (s0 : Int32) (k5 : bw_A1 → Int32 → Int32 → Option (bw_A1 × Int32)) (hk5 : ∀ (H : Heap) (locs : List Loc) (ls : Array Slot) (z_ : bw_A1) (x3_ : Int32) (x4_ : Int32), k5 z_ x3_ x4_ = some (z', ca') → bw_I G A s.heap (bw_mW cy a z_ rows asd sm buf bm th od om ow ca bo la pl to rd hh) H locs → lv_has ls 8 [(0, .ref (a 0)), (1, .int x1), (2, .int x2), (3, .int x3_), (4, .int x4_)] → W p l e (bw_rm 3 64) s m [.ref (a 0), .int p1, .int p2].toArray below meth c H locs 0 0 Q (F0 m 5 ls [])) (H : Heap) (locs : List Loc) (ls : Array Slot), jX6_callBack_106 k5 z ca x1 x2 x3 x4 x6 x7 s0 = some (z', ca') → bw_I G A s.heap (bw_mW cy a z rows asd sm buf bm th od om ow ca bo la pl to rd hh) H locs → lv_has ls 8 [(0, .ref (a 0)), (1, .int x1), (2, .int x2), (3, .int x3), (4, .int x4), (6, .int x6), (7, .int x7)] → W p l e (bw_rm 3 64) s m [.ref (a 0), .int p1, .int p2].toArray below meth c H locs 0 0 Q (F0 m 106 ls [.int s0]) := by
    intro z ca x1 x2 x3 x4 x6 x7 s0 k5 hk5 H locs ls h hI hl
    unfold jX6_callBack_106 at h
    refine lv_istore (lv' := [(5, .int s0), (0, .ref (a 0)), (1, .int x1), (2, .int x2), (3, .int x3), (4, .int x4), (6, .int x6), (7, .int x7)]) hx hb dX6_callBack_106 hl (by decide) rfl (fun ls hl => ?_)
    refine lv_aload_n hx hb dX6_callBack_108 rfl (lv_at hl 1 rfl) ?_
    refine bw_get S hK hI 0 0 rfl rfl (by decide) i_X6 f_X6_7 rfl dX6_callBack_109 ?_
    refine lv_iload hx hb dX6_callBack_112 (lv_at hl 6 rfl) ?_
    refine lv_iconst (v := 2) hx hb dX6_callBack_114 rfl ?_
    refine lv_iadd hx hb dX6_callBack_115 ?_
    refine lv_dup2_11 hx hb dX6_callBack_116 rfl rfl ?_
    obtain ⟨v117, hv, h⟩ := bw_b1_e h
    refine bw_iald hx hb hK hI 1 hv rfl dX6_callBack_117 ?_
    refine lv_iload hx hb dX6_callBack_118 (lv_at hl 7 rfl) ?_
    refine lv_isub hx hb dX6_callBack_120 ?_
    obtain ⟨z_121, hv, h⟩ := bw_b1_e h
    refine bw_iast hx hb hK hI 1 (ws' := (bw_mW cy a z_121 rows asd sm buf bm th od om ow ca bo la pl to rd hh)) hv rfl rfl dX6_callBack_121 (fun H locs hI => ?_)
    refine lv_iload_n hx hb dX6_callBack_122 rfl (lv_at hl 4 rfl) ?_
    refine lv_iload hx hb dX6_callBack_123 (lv_at hl 7 rfl) ?_
    refine lv_isub hx hb dX6_callBack_125 ?_
    refine lv_topi (fun x3_126 e_126 => ?_)
    have h := bw_let_e h e_126
    clear e_126
    refine lv_istore_n (lv' := [(3, .int x3_126), (5, .int s0), (0, .ref (a 0)), (1, .int x1), (2, .int x2), (4, .int x4), (6, .int x6), (7, .int x7)]) hx hb dX6_callBack_126 rfl hl (by decide) rfl (fun ls hl => ?_)
    refine lv_aload_n hx hb dX6_callBack_127 rfl (lv_at hl 2 rfl) ?_
    refine lv_iload hx hb dX6_callBack_128 (lv_at hl 5 rfl) ?_
    refine lv_iload hx hb dX6_callBack_130 (lv_at hl 7 rfl) ?_
    obtain ⟨z_132, hc, h⟩ := bw_b1_e h
    refine bw_callV S hK hZ hI (mX6_cutLoan l G cy g a z_121 rows asd sm buf bm th od om ow ca bo la pl to rd hh x4 x7 z_132 hc) Y_X6_cutLoan V_X6_cutLoan l_X6_64 ⟨(Nat.le_of_ble_eq_true rfl), (Nat.le_of_ble_eq_true rfl)⟩ (q0 := 0) rfl rfl rfl (ws' := (bw_mW cy a z_132 rows asd sm buf bm th od om ow ca bo la pl to rd hh)) (bw_pS _) (bw_pS' _) rfl rfl hl.1 (rest := []) (st1 := []) rfl rfl (Nat.le_of_ble_eq_true rfl) dX6_callBack_132 ⟨Nat.le_refl _, Nat.le_refl _⟩ (fun H locs hI => ?_)
    exact j135 z_132 ca x1 x2 x3_126 x4 s0 k5 hk5 _ _ _ h hI (lv_sub hl [2,3,4,0,5,1] rfl)
  have l5 : ∀ (ca : Int32) (x1 : Int32) (x2 : Int32) (n : Nat) (H : Heap) (locs : List Loc) (ls : Array Slot) (z : bw_A1) (x3 : Int32) (x4 : Int32), lX6_callBack_5 ca x1 x2 n z x3 x4 = some (z', ca') → bw_I G A s.heap (bw_mW cy a z rows asd sm buf bm th od om ow ca bo la pl to rd hh) H locs → lv_has ls 8 [(0, .ref (a 0)), (1, .int x1), (2, .int x2), (3, .int x3), (4, .int x4)] → W p l e (bw_rm 3 64) s m [.ref (a 0), .int p1, .int p2].toArray below meth c H locs 0 0 Q (F0 m 5 ls []) := by
    intro ca x1 x2 n
    induction n with
    | zero => intro H locs ls z x3 x4 h; exact bw_none h
    | succ n ih =>
      intro H locs ls z x3 x4 h hI hl
      have h : bX6_callBack_5  (lX6_callBack_5 ca x1 x2 n) ca x1 x2 z x3 x4 = some (z', ca') := h
      unfold bX6_callBack_5 at h
      refine lv_iload hx hb dX6_callBack_5 (lv_at hl 4 rfl) ?_
      refine lv_aload_n hx hb dX6_callBack_7 rfl (lv_at hl 0 rfl) ?_
      refine bw_get S hK hI 0 0 rfl rfl (by decide) i_X6 f_X6_7 rfl dX6_callBack_8 ?_
      refine lv_iconst (v := 1) hx hb dX6_callBack_11 rfl ?_
      obtain ⟨v12, hv, h⟩ := bw_b1_e h
      refine bw_iald hx hb hK hI 1 hv rfl dX6_callBack_12 ?_
      refine lv_icmp_ge (tgt := 153) hx hb dX6_callBack_13 (by decide) (fun c_13 => ?_) (fun c_13 => ?_)
      · rw [if_pos c_13] at h
        exact j153 z ca x2 x3 _ _ _ h hI (lv_sub hl [0,2,3] rfl)
      rw [if_neg c_13] at h
      refine lv_iload_n hx hb dX6_callBack_16 rfl (lv_at hl 3 rfl) ?_
      refine lv_if_le (tgt := 153) hx hb dX6_callBack_17 (by decide) (fun c_17 => ?_) (fun c_17 => ?_)
      · rw [if_pos c_17] at h
        exact j153 z ca x2 x3 _ _ _ h hI (lv_sub hl [0,2,3] rfl)
      rw [if_neg c_17] at h
      refine lv_iconst (v := 0) hx hb dX6_callBack_20 rfl ?_
      refine lv_istore (lv' := [(5, .int 0), (0, .ref (a 0)), (1, .int x1), (2, .int x2), (3, .int x3), (4, .int x4)]) hx hb dX6_callBack_21 hl (by decide) rfl (fun ls hl => ?_)
      refine lv_aload_n hx hb dX6_callBack_23 rfl (lv_at hl 1 rfl) ?_
      refine bw_get S hK hI 0 0 rfl rfl (by decide) i_X6 f_X6_7 rfl dX6_callBack_24 ?_
      refine lv_iload hx hb dX6_callBack_27 (lv_at hl 5 rfl) ?_
      obtain ⟨r29, hc, h⟩ := bw_b1_e h
      refine bw_callP S hK hZ hI (mX6_loanAt l G cy g x4 r29 hc) Y_X6_loanAt V_X6_loanAt l_X6_50 ⟨(Nat.le_of_ble_eq_true rfl), (Nat.le_of_ble_eq_true rfl)⟩ (rest := [.ref (a 1)]) (st1 := [.int r29, .ref (a 1)]) rfl hl.1 rfl rfl (Nat.le_of_ble_eq_true rfl) dX6_callBack_29 ⟨Nat.le_refl _, Nat.le_refl _⟩ (fun H locs hI => ?_)
      obtain ⟨v32, hv, h⟩ := bw_b1_e h
      refine bw_iald hx hb hK hI 1 hv rfl dX6_callBack_32 ?_
      refine lv_iload_n hx hb dX6_callBack_33 rfl (lv_at hl 2 rfl) ?_
      refine lv_icmp_ne (tgt := 135) hx hb dX6_callBack_34 (by decide) (fun c_34 => ?_) (fun c_34 => ?_)
      · rw [if_neg c_34] at h
        exact j135 z ca x1 x2 x3 x4 0 (lX6_callBack_5 ca x1 x2 n) ih _ _ _ h hI (lv_sub hl [1,2,3,4,5,0] rfl)
      rw [if_pos c_34] at h
      refine lv_aload_n hx hb dX6_callBack_37 rfl (lv_at hl 1 rfl) ?_
      refine bw_get S hK hI 0 0 rfl rfl (by decide) i_X6 f_X6_7 rfl dX6_callBack_38 ?_
      refine lv_iload hx hb dX6_callBack_41 (lv_at hl 5 rfl) ?_
      obtain ⟨r43, hc, h⟩ := bw_b1_e h
      refine bw_callP S hK hZ hI (mX6_loanAt l G cy g x4 r43 hc) Y_X6_loanAt V_X6_loanAt l_X6_50 ⟨(Nat.le_of_ble_eq_true rfl), (Nat.le_of_ble_eq_true rfl)⟩ (rest := [.ref (a 1)]) (st1 := [.int r43, .ref (a 1)]) rfl hl.1 rfl rfl (Nat.le_of_ble_eq_true rfl) dX6_callBack_43 ⟨Nat.le_refl _, Nat.le_refl _⟩ (fun H locs hI => ?_)
      refine lv_iconst (v := 1) hx hb dX6_callBack_46 rfl ?_
      refine lv_iadd hx hb dX6_callBack_47 ?_
      obtain ⟨v48, hv, h⟩ := bw_b1_e h
      refine bw_iald hx hb hK hI 1 hv rfl dX6_callBack_48 ?_
      obtain ⟨r49, hc, h⟩ := bw_b1_e h
      refine bw_callP S hK hZ hI (mX6_at l G cy g v48 r49 hc) Y_X6_at V_X6_at l_X6_39 ⟨(Nat.le_of_ble_eq_true rfl), (Nat.le_of_ble_eq_true rfl)⟩ (rest := []) (st1 := [.int r49]) rfl hl.1 rfl rfl (Nat.le_of_ble_eq_true rfl) dX6_callBack_49 ⟨Nat.le_refl _, Nat.le_refl _⟩ (fun H locs hI => ?_)
      refine lv_istore (lv' := [(6, .int r49), (5, .int 0), (0, .ref (a 0)), (1, .int x1), (2, .int x2), (3, .int x3), (4, .int x4)]) hx hb dX6_callBack_52 hl (by decide) rfl (fun ls hl => ?_)
      refine lv_iload_n hx hb dX6_callBack_54 rfl (lv_at hl 5 rfl) ?_
      refine lv_aload_n hx hb dX6_callBack_55 rfl (lv_at hl 2 rfl) ?_
      refine bw_get S hK hI 0 0 rfl rfl (by decide) i_X6 f_X6_7 rfl dX6_callBack_56 ?_
      refine lv_iload hx hb dX6_callBack_59 (lv_at hl 6 rfl) ?_
      obtain ⟨r61, hc, h⟩ := bw_b1_e h
      refine bw_callP S hK hZ hI (mX6_loanAt l G cy g x4 r61 hc) Y_X6_loanAt V_X6_loanAt l_X6_50 ⟨(Nat.le_of_ble_eq_true rfl), (Nat.le_of_ble_eq_true rfl)⟩ (rest := [.ref (a 1), .int x3]) (st1 := [.int r61, .ref (a 1), .int x3]) rfl hl.1 rfl rfl (Nat.le_of_ble_eq_true rfl) dX6_callBack_61 ⟨Nat.le_refl _, Nat.le_refl _⟩ (fun H locs hI => ?_)
      refine lv_iconst (v := 2) hx hb dX6_callBack_64 rfl ?_
      refine lv_iadd hx hb dX6_callBack_65 ?_
      obtain ⟨v66, hv, h⟩ := bw_b1_e h
      refine bw_iald hx hb hK hI 1 hv rfl dX6_callBack_66 ?_
      refine lv_aload_n hx hb dX6_callBack_67 rfl (lv_at hl 2 rfl) ?_
      refine bw_get S hK hI 0 0 rfl rfl (by decide) i_X6 f_X6_7 rfl dX6_callBack_68 ?_
      refine lv_iload hx hb dX6_callBack_71 (lv_at hl 0 rfl) ?_
      refine lv_iconst (v := 2) hx hb dX6_callBack_73 rfl ?_
      refine lv_iadd hx hb dX6_callBack_74 ?_
      obtain ⟨v75, hv, h⟩ := bw_b1_e h
      refine bw_iald hx hb hK hI 1 hv rfl dX6_callBack_75 ?_
      obtain ⟨r76, hc, h⟩ := bw_b1_e h
      refine bw_callP S hK hZ hI (mX6_least l G cy g v66 v75 r76 hc) Y_X6_least V_X6_least l_X6_61 ⟨(Nat.le_of_ble_eq_true rfl), (Nat.le_of_ble_eq_true rfl)⟩ (rest := [.int x3]) (st1 := [.int r76, .int x3]) rfl hl.1 rfl rfl (Nat.le_of_ble_eq_true rfl) dX6_callBack_76 ⟨Nat.le_refl _, Nat.le_refl _⟩ (fun H locs hI => ?_)
      obtain ⟨r79, hc, h⟩ := bw_b1_e h
      refine bw_callP S hK hZ hI (mX6_least l G cy g x3 r76 r79 hc) Y_X6_least V_X6_least l_X6_61 ⟨(Nat.le_of_ble_eq_true rfl), (Nat.le_of_ble_eq_true rfl)⟩ (rest := []) (st1 := [.int r79]) rfl hl.1 rfl rfl (Nat.le_of_ble_eq_true rfl) dX6_callBack_79 ⟨Nat.le_refl _, Nat.le_refl _⟩ (fun H locs hI => ?_)
      refine lv_istore (lv' := [(7, .int r79), (6, .int r49), (5, .int 0), (0, .ref (a 0)), (1, .int x1), (2, .int x2), (3, .int x3), (4, .int x4)]) hx hb dX6_callBack_82 hl (by decide) rfl (fun ls hl => ?_)
      refine lv_iload hx hb dX6_callBack_84 (lv_at hl 0 rfl) ?_
      refine lv_aload_n hx hb dX6_callBack_86 rfl (lv_at hl 3 rfl) ?_
      refine bw_get S hK hI 0 0 rfl rfl (by decide) i_X6 f_X6_7 rfl dX6_callBack_87 ?_
      refine lv_iload hx hb dX6_callBack_90 (lv_at hl 7 rfl) ?_
      obtain ⟨r92, hc, h⟩ := bw_b1_e h
      refine bw_callP S hK hZ hI (mX6_loanAt l G cy g x4 r92 hc) Y_X6_loanAt V_X6_loanAt l_X6_50 ⟨(Nat.le_of_ble_eq_true rfl), (Nat.le_of_ble_eq_true rfl)⟩ (rest := [.ref (a 1), .int r79]) (st1 := [.int r92, .ref (a 1), .int r79]) rfl hl.1 rfl rfl (Nat.le_of_ble_eq_true rfl) dX6_callBack_92 ⟨Nat.le_refl _, Nat.le_refl _⟩ (fun H locs hI => ?_)
      refine lv_iconst (v := 2) hx hb dX6_callBack_95 rfl ?_
      refine lv_iadd hx hb dX6_callBack_96 ?_
      obtain ⟨v97, hv, h⟩ := bw_b1_e h
      refine bw_iald hx hb hK hI 1 hv rfl dX6_callBack_97 ?_
      refine lv_icmp_ne (tgt := 105) hx hb dX6_callBack_98 (by decide) (fun c_98 => ?_) (fun c_98 => ?_)
      · rw [if_neg c_98] at h
        refine lv_iconst (v := 0) hx hb dX6_callBack_105 rfl ?_
        exact j106 z ca x1 x2 x3 x4 r49 r79 0 (lX6_callBack_5 ca x1 x2 n) ih _ _ _ h hI (lv_sub hl [3,4,5,6,7,1,0] rfl)
      rw [if_pos c_98] at h
      refine lv_iconst (v := 1) hx hb dX6_callBack_101 rfl ?_
      refine lv_goto (tgt := 106) hx hb dX6_callBack_102 (by decide) ?_
      exact j106 z ca x1 x2 x3 x4 r49 r79 1 (lX6_callBack_5 ca x1 x2 n) ih _ _ _ h hI (lv_sub hl [3,4,5,6,7,1,0] rfl)
  unfold fX6_callBack at h
  refine lv_iload_n hx hb dX6_callBack_0 rfl (lv_at hl 2 rfl) ?_
  refine lv_istore_n (lv' := [(3, .int p2), (0, .ref (a 0)), (1, .int p1), (2, .int p2)]) hx hb dX6_callBack_1 rfl hl (by decide) rfl (fun ls hl => ?_)
  refine lv_iconst (v := 0) hx hb dX6_callBack_2 rfl ?_
  refine lv_istore (lv' := [(4, .int 0), (3, .int p2), (0, .ref (a 0)), (1, .int p1), (2, .int p2)]) hx hb dX6_callBack_3 hl (by decide) rfl (fun ls hl => ?_)
  exact l5 ca p1 p2 bw_fu _ _ _ z p2 0 h hI (lv_sub hl [2,3,4,1,0] rfl)
set_option maxHeartbeats 4000000 in
set_option maxRecDepth 100000 in
theorem mX6_borrow (l : Launch) (G : va_G) (cy : Nat → ClassId) (g : Nat) (a : Nat → Nat) (z : bw_A1) (rows : bw_A1) (asd : bw_A1) (sm : Int32) (buf : bw_A1) (bm : Int32) (th : Int32) (od : bw_A1) (om : Int32) (ow : Int32) (ca : Int32) (bo : Int32) (la : Int32) (pl : Int32) (to : Int32) (rd : bw_A1) (hh : Int64) (p1 : Int32) (p2 : Int32) (z' : bw_A1) (od' : bw_A1) (om' : Int32) (bo' : Int32) (la' : Int32) (h : fX6_borrow z od om bo la p1 p2 = some (z', od', om', bo', la')) : bw_M l yX6_borrow cX6_borrow 6 none 5 111 G cy g [.ref (a 0), .int p1, .int p2] (bw_mW cy a z rows asd sm buf bm th od om ow ca bo la pl to rd hh) none (bw_mW cy a z' rows asd sm buf bm th od' om' ow ca bo' la' pl to rd hh) := by
  refine bw_ofW (by decide +kernel) RX6 rfl (Nat.le_of_ble_eq_true rfl) ?_
  intro p e s m below meth c ls S hr hlocks hK hZ hI hl
  have hx := S.1
  have hb := S.2.1
  have hown := S.2.2.2.1
  have hts := S.2.2.2.2
  generalize va_A _ s.heap.size = A at hI hZ ⊢
  generalize hQ : MQ below _ _ s 0 0 A = Q
  have hl : lv_has ls 6 [(0, .ref (a 0)), (1, .int p1), (2, .int p2)] := hl
  have j87 : ∀ (z : bw_A1) (od : bw_A1) (om : Int32) (bo : Int32) (la : Int32) (x2 : Int32) (x3 : Int32) (H : Heap) (locs : List Loc) (ls : Array Slot), jX6_borrow_87 z od om bo la x2 x3 = some (z', od', om', bo', la') → bw_I G A s.heap (bw_mW cy a z rows asd sm buf bm th od om ow ca bo la pl to rd hh) H locs → lv_has ls 6 [(0, .ref (a 0)), (2, .int x2), (3, .int x3)] → W p l e (bw_rm 5 111) s m [.ref (a 0), .int p1, .int p2].toArray below meth c H locs 0 0 Q (F0 m 87 ls []) := by
    intro z od om bo la x2 x3 H locs ls h hI hl
    unfold jX6_borrow_87 at h
    refine lv_aload_n hx hb dX6_borrow_87 rfl (lv_at hl 0 rfl) ?_
    refine lv_iload_n hx hb dX6_borrow_88 rfl (lv_at hl 1 rfl) ?_
    refine lv_iload_n hx hb dX6_borrow_89 rfl (lv_at hl 2 rfl) ?_
    refine lv_isub hx hb dX6_borrow_90 ?_
    refine lv_topi (fun bo_91 e_91 => ?_)
    have h := bw_let_e h e_91
    clear e_91
    refine bw_put S hK hI 0 11 (ws' := (bw_mW cy a z rows asd sm buf bm th od om ow ca bo_91 la pl to rd hh)) tyX6 tyX6_ok nmX6 rfl rfl (by decide) i_X6 f_X6_90 rfl rfl rfl rfl (Nat.le_of_ble_eq_true rfl) rfl dX6_borrow_91 (fun H locs hI => ?_)
    refine lv_aload_n hx hb dX6_borrow_94 rfl (lv_at hl 0 rfl) ?_
    refine lv_iload_n hx hb dX6_borrow_95 rfl (lv_at hl 2 rfl) ?_
    refine bw_put S hK hI 0 12 (ws' := (bw_mW cy a z rows asd sm buf bm th od om ow ca bo_91 x3 pl to rd hh)) tyX6 tyX6_ok nmX6 rfl rfl (by decide) i_X6 f_X6_93 rfl rfl rfl rfl (Nat.le_of_ble_eq_true rfl) rfl dX6_borrow_96 (fun H locs hI => ?_)
    subst hQ
    exact bw_vret S hr hlocks h (fun q : (bw_A1 × bw_A1 × Int32 × Int32 × Int32) => (bw_mW cy a q.1 rows asd sm buf bm th q.2.1 q.2.2.1 ow ca q.2.2.2.1 q.2.2.2.2 pl to rd hh)) hI dX6_borrow_99
  have l10 : ∀ (od : bw_A1) (om : Int32) (bo : Int32) (la : Int32) (x1 : Int32) (x2 : Int32) (n : Nat) (H : Heap) (locs : List Loc) (ls : Array Slot) (z : bw_A1) (x3 : Int32) (x4 : Int32), lX6_borrow_10 od om bo la x1 x2 n z x3 x4 = some (z', od', om', bo', la') → bw_I G A s.heap (bw_mW cy a z rows asd sm buf bm th od om ow ca bo la pl to rd hh) H locs → lv_has ls 6 [(0, .ref (a 0)), (1, .int x1), (2, .int x2), (3, .int x3), (4, .int x4)] → W p l e (bw_rm 5 111) s m [.ref (a 0), .int p1, .int p2].toArray below meth c H locs 0 0 Q (F0 m 10 ls []) := by
    intro od om bo la x1 x2 n
    induction n with
    | zero => intro H locs ls z x3 x4 h; exact bw_none h
    | succ n ih =>
      intro H locs ls z x3 x4 h hI hl
      have h : bX6_borrow_10  (lX6_borrow_10 od om bo la x1 x2 n) od om bo la x1 x2 z x3 x4 = some (z', od', om', bo', la') := h
      unfold bX6_borrow_10 at h
      refine lv_iload hx hb dX6_borrow_10 (lv_at hl 4 rfl) ?_
      refine lv_aload_n hx hb dX6_borrow_12 rfl (lv_at hl 0 rfl) ?_
      refine bw_get S hK hI 0 8 rfl rfl (by decide) i_X6 f_X6_74 rfl dX6_borrow_13 ?_
      refine lv_icmp_ge (tgt := 87) hx hb dX6_borrow_16 (by decide) (fun c_16 => ?_) (fun c_16 => ?_)
      · rw [if_pos c_16] at h
        exact j87 z od om bo la x2 x3 _ _ _ h hI (lv_sub hl [0,2,3] rfl)
      rw [if_neg c_16] at h
      refine lv_iload_n hx hb dX6_borrow_19 rfl (lv_at hl 3 rfl) ?_
      refine lv_if_le (tgt := 87) hx hb dX6_borrow_20 (by decide) (fun c_20 => ?_) (fun c_20 => ?_)
      · rw [if_pos c_20] at h
        exact j87 z od om bo la x2 x3 _ _ _ h hI (lv_sub hl [0,2,3] rfl)
      rw [if_neg c_20] at h
      refine lv_iload_n hx hb dX6_borrow_23 rfl (lv_at hl 3 rfl) ?_
      refine lv_aload_n hx hb dX6_borrow_24 rfl (lv_at hl 0 rfl) ?_
      refine lv_aload_n hx hb dX6_borrow_25 rfl (lv_at hl 0 rfl) ?_
      refine bw_get S hK hI 0 7 rfl rfl (by decide) i_X6 f_X6_22 rfl dX6_borrow_26 ?_
      refine lv_iload hx hb dX6_borrow_29 (lv_at hl 4 rfl) ?_
      obtain ⟨v31, hv, h⟩ := bw_b1_e h
      refine bw_iald hx hb hK hI 5 hv rfl dX6_borrow_31 ?_
      obtain ⟨r32, hc, h⟩ := bw_b1_e h
      refine bw_callV S hK hZ hI (mX6_canLend l G cy g a z rows asd sm buf bm th od om ow ca bo la pl to rd hh v31 r32 hc) Y_X6_canLend V_X6_canLend l_X6_68 ⟨(Nat.le_of_ble_eq_true rfl), (Nat.le_of_ble_eq_true rfl)⟩ (q0 := 0) rfl rfl rfl (ws' := (bw_mW cy a z rows asd sm buf bm th od om ow ca bo la pl to rd hh)) (bw_pS _) (bw_pS' _) rfl rfl hl.1 (rest := [.int x3]) (st1 := [.int r32, .int x3]) rfl rfl (Nat.le_of_ble_eq_true rfl) dX6_borrow_32 ⟨Nat.le_refl _, Nat.le_refl _⟩ (fun H locs hI => ?_)
      obtain ⟨r35, hc, h⟩ := bw_b1_e h
      refine bw_callP S hK hZ hI (mX6_least l G cy g x3 r32 r35 hc) Y_X6_least V_X6_least l_X6_61 ⟨(Nat.le_of_ble_eq_true rfl), (Nat.le_of_ble_eq_true rfl)⟩ (rest := []) (st1 := [.int r35]) rfl hl.1 rfl rfl (Nat.le_of_ble_eq_true rfl) dX6_borrow_35 ⟨Nat.le_refl _, Nat.le_refl _⟩ (fun H locs hI => ?_)
      refine lv_istore (lv' := [(5, .int r35), (0, .ref (a 0)), (1, .int x1), (2, .int x2), (3, .int x3), (4, .int x4)]) hx hb dX6_borrow_38 hl (by decide) rfl (fun ls hl => ?_)
      refine lv_aload_n hx hb dX6_borrow_40 rfl (lv_at hl 1 rfl) ?_
      refine lv_aload_n hx hb dX6_borrow_41 rfl (lv_at hl 1 rfl) ?_
      refine bw_get S hK hI 0 7 rfl rfl (by decide) i_X6 f_X6_22 rfl dX6_borrow_42 ?_
      refine lv_iload hx hb dX6_borrow_45 (lv_at hl 5 rfl) ?_
      obtain ⟨v47, hv, h⟩ := bw_b1_e h
      refine bw_iald hx hb hK hI 5 hv rfl dX6_borrow_47 ?_
      refine lv_iload_n hx hb dX6_borrow_48 rfl (lv_at hl 2 rfl) ?_
      refine lv_iload hx hb dX6_borrow_49 (lv_at hl 0 rfl) ?_
      obtain ⟨z_51, hc, h⟩ := bw_b1_e h
      refine bw_callV S hK hZ hI (mX6_addLoan l G cy g a z rows asd sm buf bm th od om ow ca bo la pl to rd hh v47 x1 r35 z_51 hc) Y_X6_addLoan V_X6_addLoan l_X6_86 ⟨(Nat.le_of_ble_eq_true rfl), (Nat.le_of_ble_eq_true rfl)⟩ (q0 := 0) rfl rfl rfl (ws' := (bw_mW cy a z_51 rows asd sm buf bm th od om ow ca bo la pl to rd hh)) (bw_pS _) (bw_pS' _) rfl rfl hl.1 (rest := []) (st1 := []) rfl rfl (Nat.le_of_ble_eq_true rfl) dX6_borrow_51 ⟨Nat.le_refl _, Nat.le_refl _⟩ (fun H locs hI => ?_)
      refine lv_aload_n hx hb dX6_borrow_54 rfl (lv_at hl 1 rfl) ?_
      refine bw_get S hK hI 0 0 rfl rfl (by decide) i_X6 f_X6_7 rfl dX6_borrow_55 ?_
      refine lv_aload_n hx hb dX6_borrow_58 rfl (lv_at hl 1 rfl) ?_
      refine bw_get S hK hI 0 7 rfl rfl (by decide) i_X6 f_X6_22 rfl dX6_borrow_59 ?_
      refine lv_iload hx hb dX6_borrow_62 (lv_at hl 5 rfl) ?_
      obtain ⟨v64, hv, h⟩ := bw_b1_e h
      refine bw_iald hx hb hK hI 5 hv rfl dX6_borrow_64 ?_
      obtain ⟨r65, hc, h⟩ := bw_b1_e h
      refine bw_callP S hK hZ hI (mX6_at l G cy g v64 r65 hc) Y_X6_at V_X6_at l_X6_39 ⟨(Nat.le_of_ble_eq_true rfl), (Nat.le_of_ble_eq_true rfl)⟩ (rest := [.ref (a 1)]) (st1 := [.int r65, .ref (a 1)]) rfl hl.1 rfl rfl (Nat.le_of_ble_eq_true rfl) dX6_borrow_65 ⟨Nat.le_refl _, Nat.le_refl _⟩ (fun H locs hI => ?_)
      refine lv_iconst (v := 2) hx hb dX6_borrow_68 rfl ?_
      refine lv_iadd hx hb dX6_borrow_69 ?_
      refine lv_dup2_11 hx hb dX6_borrow_70 rfl rfl ?_
      obtain ⟨v71, hv, h⟩ := bw_b1_e h
      refine bw_iald hx hb hK hI 1 hv rfl dX6_borrow_71 ?_
      refine lv_iload hx hb dX6_borrow_72 (lv_at hl 0 rfl) ?_
      refine lv_isub hx hb dX6_borrow_74 ?_
      obtain ⟨z_75, hv, h⟩ := bw_b1_e h
      refine bw_iast hx hb hK hI 1 (ws' := (bw_mW cy a z_75 rows asd sm buf bm th od om ow ca bo la pl to rd hh)) hv rfl rfl dX6_borrow_75 (fun H locs hI => ?_)
      refine lv_iload_n hx hb dX6_borrow_76 rfl (lv_at hl 4 rfl) ?_
      refine lv_iload hx hb dX6_borrow_77 (lv_at hl 0 rfl) ?_
      refine lv_isub hx hb dX6_borrow_79 ?_
      refine lv_topi (fun x3_80 e_80 => ?_)
      have h := bw_let_e h e_80
      clear e_80
      refine lv_istore_n (lv' := [(3, .int x3_80), (5, .int r35), (0, .ref (a 0)), (1, .int x1), (2, .int x2), (4, .int x4)]) hx hb dX6_borrow_80 rfl hl (by decide) rfl (fun ls hl => ?_)
      obtain ⟨x4_81, e_81⟩ : ∃ y : Int32, y = x4 + 1 := ⟨_, rfl⟩
      have h := bw_let_e h e_81
      refine lv_iinc (v := x4_81) (lv' := [(4, .int x4_81), (3, .int x3_80), (5, .int r35), (0, .ref (a 0)), (1, .int x1), (2, .int x2)]) hx hb dX6_borrow_81 hl (k := 5) rfl (by rw [e_81]; rfl) (by decide) rfl (fun ls hl => ?_)
      clear e_81
      refine lv_goto (tgt := 10) hx hb dX6_borrow_84 (by decide) ?_
      exact ih _ _ _ z_75 x3_80 x4_81 h hI (lv_sub hl [3,4,5,1,0] rfl)
  unfold fX6_borrow at h
  refine lv_iload_n hx hb dX6_borrow_0 rfl (lv_at hl 2 rfl) ?_
  refine lv_istore_n (lv' := [(3, .int p2), (0, .ref (a 0)), (1, .int p1), (2, .int p2)]) hx hb dX6_borrow_1 rfl hl (by decide) rfl (fun ls hl => ?_)
  refine lv_aload_n hx hb dX6_borrow_2 rfl (lv_at hl 1 rfl) ?_
  refine lv_iload_n hx hb dX6_borrow_3 rfl (lv_at hl 2 rfl) ?_
  obtain ⟨od_4, om_4, hc, h⟩ := bw_b2_e h
  refine bw_callV S hK hZ hI (mX6_layOrder l G cy g a z rows asd sm buf bm th od om ow ca bo la pl to rd hh p1 od_4 om_4 hc) Y_X6_layOrder V_X6_layOrder l_X6_83 ⟨(Nat.le_of_ble_eq_true rfl), (Nat.le_of_ble_eq_true rfl)⟩ (q0 := 0) rfl rfl rfl (ws' := (bw_mW cy a z rows asd sm buf bm th od_4 om_4 ow ca bo la pl to rd hh)) (bw_pS _) (bw_pS' _) rfl rfl hl.1 (rest := []) (st1 := []) rfl rfl (Nat.le_of_ble_eq_true rfl) dX6_borrow_4 ⟨Nat.le_refl _, Nat.le_refl _⟩ (fun H locs hI => ?_)
  refine lv_iconst (v := 0) hx hb dX6_borrow_7 rfl ?_
  refine lv_istore (lv' := [(4, .int 0), (3, .int p2), (0, .ref (a 0)), (1, .int p1), (2, .int p2)]) hx hb dX6_borrow_8 hl (by decide) rfl (fun ls hl => ?_)
  exact l10 od_4 om_4 bo la p1 p2 bw_fu _ _ _ z p2 0 h hI (lv_sub hl [2,3,4,1,0] rfl)
set_option maxHeartbeats 4000000 in
set_option maxRecDepth 100000 in
theorem mX6_charge (l : Launch) (G : va_G) (cy : Nat → ClassId) (g : Nat) (a : Nat → Nat) (z : bw_A1) (rows : bw_A1) (asd : bw_A1) (sm : Int32) (buf : bw_A1) (bm : Int32) (th : Int32) (od : bw_A1) (om : Int32) (ow : Int32) (ca : Int32) (bo : Int32) (la : Int32) (pl : Int32) (to : Int32) (rd : bw_A1) (hh : Int64) (p1 : Int32) (p2 : Int32) (z' : bw_A1) (od' : bw_A1) (om' : Int32) (ow' : Int32) (ca' : Int32) (bo' : Int32) (la' : Int32) (h : fX6_charge z od om ow ca bo la p1 p2 = some (z', od', om', ow', ca', bo', la')) : bw_M l yX6_charge cX6_charge 4 none 6 136 G cy g [.ref (a 0), .int p1, .int p2] (bw_mW cy a z rows asd sm buf bm th od om ow ca bo la pl to rd hh) none (bw_mW cy a z' rows asd sm buf bm th od' om' ow' ca' bo' la' pl to rd hh) := by
  refine bw_ofW (by decide +kernel) RX6 rfl (Nat.le_of_ble_eq_true rfl) ?_
  intro p e s m below meth c ls S hr hlocks hK hZ hI hl
  have hx := S.1
  have hb := S.2.1
  have hown := S.2.2.2.1
  have hts := S.2.2.2.2
  generalize va_A _ s.heap.size = A at hI hZ ⊢
  generalize hQ : MQ below _ _ s 0 0 A = Q
  have hl : lv_has ls 4 [(0, .ref (a 0)), (1, .int p1), (2, .int p2)] := hl
  unfold fX6_charge at h
  refine lv_iload_n hx hb dX6_charge_0 rfl (lv_at hl 1 rfl) ?_
  obtain ⟨r1, hc, h⟩ := bw_b1_e h
  refine bw_callP S hK hZ hI (mX6_at l G cy g p1 r1 hc) Y_X6_at V_X6_at l_X6_39 ⟨(Nat.le_of_ble_eq_true rfl), (Nat.le_of_ble_eq_true rfl)⟩ (rest := []) (st1 := [.int r1]) rfl hl.1 rfl rfl (Nat.le_of_ble_eq_true rfl) dX6_charge_1 ⟨Nat.le_refl _, Nat.le_refl _⟩ (fun H locs hI => ?_)
  refine lv_istore_n (lv' := [(3, .int r1), (0, .ref (a 0)), (1, .int p1), (2, .int p2)]) hx hb dX6_charge_4 rfl hl (by decide) rfl (fun ls hl => ?_)
  refine lv_aload_n hx hb dX6_charge_5 rfl (lv_at hl 1 rfl) ?_
  refine lv_iload_n hx hb dX6_charge_6 rfl (lv_at hl 3 rfl) ?_
  refine lv_aload_n hx hb dX6_charge_7 rfl (lv_at hl 1 rfl) ?_
  refine bw_get S hK hI 0 0 rfl rfl (by decide) i_X6 f_X6_7 rfl dX6_charge_8 ?_
  refine lv_iload_n hx hb dX6_charge_11 rfl (lv_at hl 0 rfl) ?_
  refine lv_iconst (v := 2) hx hb dX6_charge_12 rfl ?_
  refine lv_iadd hx hb dX6_charge_13 ?_
  obtain ⟨v14, hv, h⟩ := bw_b1_e h
  refine bw_iald hx hb hK hI 1 hv rfl dX6_charge_14 ?_
  obtain ⟨r15, hc, h⟩ := bw_b1_e h
  refine bw_callP S hK hZ hI (mX6_least l G cy g p2 v14 r15 hc) Y_X6_least V_X6_least l_X6_61 ⟨(Nat.le_of_ble_eq_true rfl), (Nat.le_of_ble_eq_true rfl)⟩ (rest := [.ref (a 0)]) (st1 := [.int r15, .ref (a 0)]) rfl hl.1 rfl rfl (Nat.le_of_ble_eq_true rfl) dX6_charge_15 ⟨Nat.le_refl _, Nat.le_refl _⟩ (fun H locs hI => ?_)
  refine bw_put S hK hI 0 9 (ws' := (bw_mW cy a z rows asd sm buf bm th od om r15 ca bo la pl to rd hh)) tyX6 tyX6_ok nmX6 rfl rfl (by decide) i_X6 f_X6_96 rfl rfl rfl rfl (Nat.le_of_ble_eq_true rfl) rfl dX6_charge_18 (fun H locs hI => ?_)
  refine lv_aload_n hx hb dX6_charge_21 rfl (lv_at hl 1 rfl) ?_
  refine bw_get S hK hI 0 0 rfl rfl (by decide) i_X6 f_X6_7 rfl dX6_charge_22 ?_
  refine lv_iload_n hx hb dX6_charge_25 rfl (lv_at hl 0 rfl) ?_
  refine lv_iconst (v := 2) hx hb dX6_charge_26 rfl ?_
  refine lv_iadd hx hb dX6_charge_27 ?_
  refine lv_dup2_11 hx hb dX6_charge_28 rfl rfl ?_
  obtain ⟨v29, hv, h⟩ := bw_b1_e h
  refine bw_iald hx hb hK hI 1 hv rfl dX6_charge_29 ?_
  refine lv_aload_n hx hb dX6_charge_30 rfl (lv_at hl 1 rfl) ?_
  refine bw_get S hK hI 0 9 rfl rfl (by decide) i_X6 f_X6_96 rfl dX6_charge_31 ?_
  refine lv_isub hx hb dX6_charge_34 ?_
  obtain ⟨z_35, hv, h⟩ := bw_b1_e h
  refine bw_iast hx hb hK hI 1 (ws' := (bw_mW cy a z_35 rows asd sm buf bm th od om r15 ca bo la pl to rd hh)) hv rfl rfl dX6_charge_35 (fun H locs hI => ?_)
  refine lv_aload_n hx hb dX6_charge_36 rfl (lv_at hl 1 rfl) ?_
  refine lv_iload_n hx hb dX6_charge_37 rfl (lv_at hl 2 rfl) ?_
  refine lv_iload_n hx hb dX6_charge_38 rfl (lv_at hl 3 rfl) ?_
  refine lv_aload_n hx hb dX6_charge_39 rfl (lv_at hl 1 rfl) ?_
  refine bw_get S hK hI 0 9 rfl rfl (by decide) i_X6 f_X6_96 rfl dX6_charge_40 ?_
  refine lv_isub hx hb dX6_charge_43 ?_
  obtain ⟨z_44, ca_44, hc, h⟩ := bw_b2_e h
  refine bw_callV S hK hZ hI (mX6_callBack l G cy g a z_35 rows asd sm buf bm th od om r15 ca bo la pl to rd hh p1 (p2 - r15) z_44 ca_44 hc) Y_X6_callBack V_X6_callBack l_X6_99 ⟨(Nat.le_of_ble_eq_true rfl), (Nat.le_of_ble_eq_true rfl)⟩ (q0 := 0) rfl rfl rfl (ws' := (bw_mW cy a z_44 rows asd sm buf bm th od om r15 ca_44 bo la pl to rd hh)) (bw_pS _) (bw_pS' _) rfl rfl hl.1 (rest := []) (st1 := []) rfl rfl (Nat.le_of_ble_eq_true rfl) dX6_charge_44 ⟨Nat.le_refl _, Nat.le_refl _⟩ (fun H locs hI => ?_)
  refine lv_aload_n hx hb dX6_charge_47 rfl (lv_at hl 1 rfl) ?_
  refine lv_iload_n hx hb dX6_charge_48 rfl (lv_at hl 2 rfl) ?_
  refine lv_iload_n hx hb dX6_charge_49 rfl (lv_at hl 3 rfl) ?_
  refine lv_aload_n hx hb dX6_charge_50 rfl (lv_at hl 1 rfl) ?_
  refine bw_get S hK hI 0 9 rfl rfl (by decide) i_X6 f_X6_96 rfl dX6_charge_51 ?_
  refine lv_isub hx hb dX6_charge_54 ?_
  refine lv_aload_n hx hb dX6_charge_55 rfl (lv_at hl 1 rfl) ?_
  refine bw_get S hK hI 0 10 rfl rfl (by decide) i_X6 f_X6_80 rfl dX6_charge_56 ?_
  refine lv_isub hx hb dX6_charge_59 ?_
  obtain ⟨z_60, od_60, om_60, bo_60, la_60, hc, h⟩ := bw_b5_e h
  refine bw_callV S hK hZ hI (mX6_borrow l G cy g a z_44 rows asd sm buf bm th od om r15 ca_44 bo la pl to rd hh p1 ((p2 - r15) - ca_44) z_60 od_60 om_60 bo_60 la_60 hc) Y_X6_borrow V_X6_borrow l_X6_102 ⟨(Nat.le_of_ble_eq_true rfl), (Nat.le_of_ble_eq_true rfl)⟩ (q0 := 0) rfl rfl rfl (ws' := (bw_mW cy a z_60 rows asd sm buf bm th od_60 om_60 r15 ca_44 bo_60 la_60 pl to rd hh)) (bw_pS _) (bw_pS' _) rfl rfl hl.1 (rest := []) (st1 := []) rfl rfl (Nat.le_of_ble_eq_true rfl) dX6_charge_60 ⟨Nat.le_refl _, Nat.le_refl _⟩ (fun H locs hI => ?_)
  refine lv_aload_n hx hb dX6_charge_63 rfl (lv_at hl 1 rfl) ?_
  refine bw_get S hK hI 0 0 rfl rfl (by decide) i_X6 f_X6_7 rfl dX6_charge_64 ?_
  refine lv_iload_n hx hb dX6_charge_67 rfl (lv_at hl 0 rfl) ?_
  refine lv_iconst (v := 3) hx hb dX6_charge_68 rfl ?_
  refine lv_iadd hx hb dX6_charge_69 ?_
  refine lv_dup2_11 hx hb dX6_charge_70 rfl rfl ?_
  obtain ⟨v71, hv, h⟩ := bw_b1_e h
  refine bw_iald hx hb hK hI 1 hv rfl dX6_charge_71 ?_
  refine lv_aload_n hx hb dX6_charge_72 rfl (lv_at hl 1 rfl) ?_
  refine bw_get S hK hI 0 9 rfl rfl (by decide) i_X6 f_X6_96 rfl dX6_charge_73 ?_
  refine lv_aload_n hx hb dX6_charge_76 rfl (lv_at hl 1 rfl) ?_
  refine bw_get S hK hI 0 10 rfl rfl (by decide) i_X6 f_X6_80 rfl dX6_charge_77 ?_
  refine lv_iadd hx hb dX6_charge_80 ?_
  refine lv_aload_n hx hb dX6_charge_81 rfl (lv_at hl 1 rfl) ?_
  refine bw_get S hK hI 0 11 rfl rfl (by decide) i_X6 f_X6_90 rfl dX6_charge_82 ?_
  refine lv_iadd hx hb dX6_charge_85 ?_
  refine lv_iadd hx hb dX6_charge_86 ?_
  obtain ⟨z_87, hv, h⟩ := bw_b1_e h
  refine bw_iast hx hb hK hI 1 (ws' := (bw_mW cy a z_87 rows asd sm buf bm th od_60 om_60 r15 ca_44 bo_60 la_60 pl to rd hh)) hv rfl rfl dX6_charge_87 (fun H locs hI => ?_)
  refine lv_aload_n hx hb dX6_charge_88 rfl (lv_at hl 1 rfl) ?_
  refine bw_get S hK hI 0 0 rfl rfl (by decide) i_X6 f_X6_7 rfl dX6_charge_89 ?_
  refine lv_iload_n hx hb dX6_charge_92 rfl (lv_at hl 0 rfl) ?_
  refine lv_iconst (v := 4) hx hb dX6_charge_93 rfl ?_
  refine lv_iadd hx hb dX6_charge_94 ?_
  refine lv_dup2_11 hx hb dX6_charge_95 rfl rfl ?_
  obtain ⟨v96, hv, h⟩ := bw_b1_e h
  refine bw_iald hx hb hK hI 1 hv rfl dX6_charge_96 ?_
  refine lv_aload_n hx hb dX6_charge_97 rfl (lv_at hl 1 rfl) ?_
  refine bw_get S hK hI 0 12 rfl rfl (by decide) i_X6 f_X6_93 rfl dX6_charge_98 ?_
  refine lv_iadd hx hb dX6_charge_101 ?_
  obtain ⟨z_102, hv, h⟩ := bw_b1_e h
  refine bw_iast hx hb hK hI 1 (ws' := (bw_mW cy a z_102 rows asd sm buf bm th od_60 om_60 r15 ca_44 bo_60 la_60 pl to rd hh)) hv rfl rfl dX6_charge_102 (fun H locs hI => ?_)
  subst hQ
  exact bw_vret S hr hlocks h (fun q : (bw_A1 × bw_A1 × Int32 × Int32 × Int32 × Int32 × Int32) => (bw_mW cy a q.1 rows asd sm buf bm th q.2.1 q.2.2.1 q.2.2.2.1 q.2.2.2.2.1 q.2.2.2.2.2.1 q.2.2.2.2.2.2 pl to rd hh)) hI dX6_charge_103
set_option maxHeartbeats 4000000 in
set_option maxRecDepth 100000 in
theorem mX6_doNow (l : Launch) (G : va_G) (cy : Nat → ClassId) (g : Nat) (a : Nat → Nat) (z : bw_A1) (rows : bw_A1) (asd : bw_A1) (sm : Int32) (buf : bw_A1) (bm : Int32) (th : Int32) (od : bw_A1) (om : Int32) (ow : Int32) (ca : Int32) (bo : Int32) (la : Int32) (pl : Int32) (to : Int32) (rd : bw_A1) (hh : Int64) (p1 : Int32) (p2 : Int32) (z' : bw_A1) (od' : bw_A1) (om' : Int32) (ow' : Int32) (ca' : Int32) (bo' : Int32) (la' : Int32) (h : fX6_doNow z od om ow ca bo la p1 p2 = some (z', od', om', ow', ca', bo', la')) : bw_M l yX6_doNow cX6_doNow 6 none 7 159 G cy g [.ref (a 0), .int p1, .int p2] (bw_mW cy a z rows asd sm buf bm th od om ow ca bo la pl to rd hh) none (bw_mW cy a z' rows asd sm buf bm th od' om' ow' ca' bo' la' pl to rd hh) := by
  refine bw_ofW (by decide +kernel) RX6 rfl (Nat.le_of_ble_eq_true rfl) ?_
  intro p e s m below meth c ls S hr hlocks hK hZ hI hl
  have hx := S.1
  have hb := S.2.1
  have hown := S.2.2.2.1
  have hts := S.2.2.2.2
  generalize va_A _ s.heap.size = A at hI hZ ⊢
  generalize hQ : MQ below _ _ s 0 0 A = Q
  have hl : lv_has ls 6 [(0, .ref (a 0)), (1, .int p1), (2, .int p2)] := hl
  have j114 : ∀ (z : bw_A1) (od : bw_A1) (om : Int32) (ow : Int32) (ca : Int32) (bo : Int32) (la : Int32) (x1 : Int32) (x3 : Int32) (x4 : Int32) (H : Heap) (locs : List Loc) (ls : Array Slot), jX6_doNow_114 z od om ow ca bo la x1 x3 x4 = some (z', od', om', ow', ca', bo', la') → bw_I G A s.heap (bw_mW cy a z rows asd sm buf bm th od om ow ca bo la pl to rd hh) H locs → lv_has ls 6 [(0, .ref (a 0)), (1, .int x1), (3, .int x3), (4, .int x4)] → W p l e (bw_rm 7 159) s m [.ref (a 0), .int p1, .int p2].toArray below meth c H locs 0 0 Q (F0 m 114 ls []) := by
    intro z od om ow ca bo la x1 x3 x4 H locs ls h hI hl
    unfold jX6_doNow_114 at h
    refine lv_aload_n hx hb dX6_doNow_114 rfl (lv_at hl 0 rfl) ?_
    refine bw_get S hK hI 0 0 rfl rfl (by decide) i_X6 f_X6_7 rfl dX6_doNow_115 ?_
    refine lv_iload_n hx hb dX6_doNow_118 rfl (lv_at hl 2 rfl) ?_
    refine lv_bipush (v := 26) hx hb dX6_doNow_119 (by decide) ?_
    refine lv_iadd hx hb dX6_doNow_121 ?_
    refine lv_iconst (v := 4) hx hb dX6_doNow_122 rfl ?_
    refine lv_iload hx hb dX6_doNow_123 (lv_at hl 3 rfl) ?_
    refine lv_imul hx hb dX6_doNow_125 ?_
    refine lv_iadd hx hb dX6_doNow_126 ?_
    refine lv_aload_n hx hb dX6_doNow_127 rfl (lv_at hl 0 rfl) ?_
    refine bw_get S hK hI 0 9 rfl rfl (by decide) i_X6 f_X6_96 rfl dX6_doNow_128 ?_
    obtain ⟨z_131, hv, h⟩ := bw_b1_e h
    refine bw_iast hx hb hK hI 1 (ws' := (bw_mW cy a z_131 rows asd sm buf bm th od om ow ca bo la pl to rd hh)) hv rfl rfl dX6_doNow_131 (fun H locs hI => ?_)
    refine lv_aload_n hx hb dX6_doNow_132 rfl (lv_at hl 0 rfl) ?_
    refine bw_get S hK hI 0 0 rfl rfl (by decide) i_X6 f_X6_7 rfl dX6_doNow_133 ?_
    refine lv_iload_n hx hb dX6_doNow_136 rfl (lv_at hl 2 rfl) ?_
    refine lv_bipush (v := 26) hx hb dX6_doNow_137 (by decide) ?_
    refine lv_iadd hx hb dX6_doNow_139 ?_
    refine lv_iconst (v := 4) hx hb dX6_doNow_140 rfl ?_
    refine lv_iload hx hb dX6_doNow_141 (lv_at hl 3 rfl) ?_
    refine lv_imul hx hb dX6_doNow_143 ?_
    refine lv_iadd hx hb dX6_doNow_144 ?_
    refine lv_iconst (v := 1) hx hb dX6_doNow_145 rfl ?_
    refine lv_iadd hx hb dX6_doNow_146 ?_
    refine lv_aload_n hx hb dX6_doNow_147 rfl (lv_at hl 0 rfl) ?_
    refine bw_get S hK hI 0 10 rfl rfl (by decide) i_X6 f_X6_80 rfl dX6_doNow_148 ?_
    obtain ⟨z_151, hv, h⟩ := bw_b1_e h
    refine bw_iast hx hb hK hI 1 (ws' := (bw_mW cy a z_151 rows asd sm buf bm th od om ow ca bo la pl to rd hh)) hv rfl rfl dX6_doNow_151 (fun H locs hI => ?_)
    refine lv_aload_n hx hb dX6_doNow_152 rfl (lv_at hl 0 rfl) ?_
    refine bw_get S hK hI 0 0 rfl rfl (by decide) i_X6 f_X6_7 rfl dX6_doNow_153 ?_
    refine lv_iload_n hx hb dX6_doNow_156 rfl (lv_at hl 2 rfl) ?_
    refine lv_bipush (v := 26) hx hb dX6_doNow_157 (by decide) ?_
    refine lv_iadd hx hb dX6_doNow_159 ?_
    refine lv_iconst (v := 4) hx hb dX6_doNow_160 rfl ?_
    refine lv_iload hx hb dX6_doNow_161 (lv_at hl 3 rfl) ?_
    refine lv_imul hx hb dX6_doNow_163 ?_
    refine lv_iadd hx hb dX6_doNow_164 ?_
    refine lv_iconst (v := 2) hx hb dX6_doNow_165 rfl ?_
    refine lv_iadd hx hb dX6_doNow_166 ?_
    refine lv_aload_n hx hb dX6_doNow_167 rfl (lv_at hl 0 rfl) ?_
    refine bw_get S hK hI 0 11 rfl rfl (by decide) i_X6 f_X6_90 rfl dX6_doNow_168 ?_
    obtain ⟨z_171, hv, h⟩ := bw_b1_e h
    refine bw_iast hx hb hK hI 1 (ws' := (bw_mW cy a z_171 rows asd sm buf bm th od om ow ca bo la pl to rd hh)) hv rfl rfl dX6_doNow_171 (fun H locs hI => ?_)
    refine lv_aload_n hx hb dX6_doNow_172 rfl (lv_at hl 0 rfl) ?_
    refine bw_get S hK hI 0 0 rfl rfl (by decide) i_X6 f_X6_7 rfl dX6_doNow_173 ?_
    refine lv_iload_n hx hb dX6_doNow_176 rfl (lv_at hl 2 rfl) ?_
    refine lv_bipush (v := 26) hx hb dX6_doNow_177 (by decide) ?_
    refine lv_iadd hx hb dX6_doNow_179 ?_
    refine lv_iconst (v := 4) hx hb dX6_doNow_180 rfl ?_
    refine lv_iload hx hb dX6_doNow_181 (lv_at hl 3 rfl) ?_
    refine lv_imul hx hb dX6_doNow_183 ?_
    refine lv_iadd hx hb dX6_doNow_184 ?_
    refine lv_iconst (v := 3) hx hb dX6_doNow_185 rfl ?_
    refine lv_iadd hx hb dX6_doNow_186 ?_
    refine lv_aload_n hx hb dX6_doNow_187 rfl (lv_at hl 0 rfl) ?_
    refine bw_get S hK hI 0 12 rfl rfl (by decide) i_X6 f_X6_93 rfl dX6_doNow_188 ?_
    obtain ⟨z_191, hv, h⟩ := bw_b1_e h
    refine bw_iast hx hb hK hI 1 (ws' := (bw_mW cy a z_191 rows asd sm buf bm th od om ow ca bo la pl to rd hh)) hv rfl rfl dX6_doNow_191 (fun H locs hI => ?_)
    refine lv_aload_n hx hb dX6_doNow_192 rfl (lv_at hl 0 rfl) ?_
    refine bw_get S hK hI 0 0 rfl rfl (by decide) i_X6 f_X6_7 rfl dX6_doNow_193 ?_
    refine lv_iload_n hx hb dX6_doNow_196 rfl (lv_at hl 2 rfl) ?_
    refine lv_bipush (v := 6) hx hb dX6_doNow_197 (by decide) ?_
    refine lv_iadd hx hb dX6_doNow_199 ?_
    refine lv_dup2_11 hx hb dX6_doNow_200 rfl rfl ?_
    obtain ⟨v201, hv, h⟩ := bw_b1_e h
    refine bw_iald hx hb hK hI 1 hv rfl dX6_doNow_201 ?_
    refine lv_iconst (v := 1) hx hb dX6_doNow_202 rfl ?_
    refine lv_iadd hx hb dX6_doNow_203 ?_
    obtain ⟨z_204, hv, h⟩ := bw_b1_e h
    refine bw_iast hx hb hK hI 1 (ws' := (bw_mW cy a z_204 rows asd sm buf bm th od om ow ca bo la pl to rd hh)) hv rfl rfl dX6_doNow_204 (fun H locs hI => ?_)
    refine lv_aload_n hx hb dX6_doNow_205 rfl (lv_at hl 0 rfl) ?_
    refine lv_iload_n hx hb dX6_doNow_206 rfl (lv_at hl 1 rfl) ?_
    obtain ⟨r207, hc, h⟩ := bw_b1_e h
    refine bw_callV S hK hZ hI (mX6_hasNext l G cy g a z_204 rows asd sm buf bm th od om ow ca bo la pl to rd hh x1 r207 hc) Y_X6_hasNext V_X6_hasNext l_X6_47 ⟨(Nat.le_of_ble_eq_true rfl), (Nat.le_of_ble_eq_true rfl)⟩ (q0 := 0) rfl rfl rfl (ws' := (bw_mW cy a z_204 rows asd sm buf bm th od om ow ca bo la pl to rd hh)) (bw_pS _) (bw_pS' _) rfl rfl hl.1 (rest := []) (st1 := [.int r207]) rfl rfl (Nat.le_of_ble_eq_true rfl) dX6_doNow_207 ⟨Nat.le_refl _, Nat.le_refl _⟩ (fun H locs hI => ?_)
    refine lv_if_eq (tgt := 236) hx hb dX6_doNow_210 (by decide) (fun c_210 => ?_) (fun c_210 => ?_)
    · rw [if_pos c_210] at h
      subst hQ
      exact bw_vret S hr hlocks h (fun q : (bw_A1 × bw_A1 × Int32 × Int32 × Int32 × Int32 × Int32) => (bw_mW cy a q.1 rows asd sm buf bm th q.2.1 q.2.2.1 q.2.2.2.1 q.2.2.2.2.1 q.2.2.2.2.2.1 q.2.2.2.2.2.2 pl to rd hh)) hI dX6_doNow_236
    rw [if_neg c_210] at h
    refine lv_aload_n hx hb dX6_doNow_213 rfl (lv_at hl 0 rfl) ?_
    refine lv_iload_n hx hb dX6_doNow_214 rfl (lv_at hl 1 rfl) ?_
    refine lv_aload_n hx hb dX6_doNow_215 rfl (lv_at hl 0 rfl) ?_
    refine bw_get S hK hI 0 0 rfl rfl (by decide) i_X6 f_X6_7 rfl dX6_doNow_216 ?_
    refine lv_iload_n hx hb dX6_doNow_219 rfl (lv_at hl 2 rfl) ?_
    refine lv_iconst (v := 2) hx hb dX6_doNow_220 rfl ?_
    refine lv_iadd hx hb dX6_doNow_221 ?_
    obtain ⟨v222, hv, h⟩ := bw_b1_e h
    refine bw_iald hx hb hK hI 1 hv rfl dX6_doNow_222 ?_
    refine lv_aload_n hx hb dX6_doNow_223 rfl (lv_at hl 0 rfl) ?_
    refine bw_get S hK hI 0 0 rfl rfl (by decide) i_X6 f_X6_7 rfl dX6_doNow_224 ?_
    refine lv_iconst (v := 5) hx hb dX6_doNow_227 rfl ?_
    obtain ⟨v228, hv, h⟩ := bw_b1_e h
    refine bw_iald hx hb hK hI 1 hv rfl dX6_doNow_228 ?_
    refine lv_imul hx hb dX6_doNow_229 ?_
    refine lv_bipush (v := 100) hx hb dX6_doNow_230 (by decide) ?_
    refine lv_idiv hx hb dX6_doNow_232 (by decide) ?_
    obtain ⟨z_233, hc, h⟩ := bw_b1_e h
    refine bw_callV S hK hZ hI (mX6_payAll l G cy g a z_204 rows asd sm buf bm th od om ow ca bo la pl to rd hh x1 ((v222 * v228) / 100) z_233 hc) Y_X6_payAll V_X6_payAll l_X6_108 ⟨(Nat.le_of_ble_eq_true rfl), (Nat.le_of_ble_eq_true rfl)⟩ (q0 := 0) rfl rfl rfl (ws' := (bw_mW cy a z_233 rows asd sm buf bm th od om ow ca bo la pl to rd hh)) (bw_pS _) (bw_pS' _) rfl rfl hl.1 (rest := []) (st1 := []) rfl rfl (Nat.le_of_ble_eq_true rfl) dX6_doNow_233 ⟨Nat.le_refl _, Nat.le_refl _⟩ (fun H locs hI => ?_)
    subst hQ
    exact bw_vret S hr hlocks h (fun q : (bw_A1 × bw_A1 × Int32 × Int32 × Int32 × Int32 × Int32) => (bw_mW cy a q.1 rows asd sm buf bm th q.2.1 q.2.2.1 q.2.2.2.1 q.2.2.2.2.1 q.2.2.2.2.2.1 q.2.2.2.2.2.2 pl to rd hh)) hI dX6_doNow_236
  unfold fX6_doNow at h
  refine lv_iload_n hx hb dX6_doNow_0 rfl (lv_at hl 1 rfl) ?_
  obtain ⟨r1, hc, h⟩ := bw_b1_e h
  refine bw_callP S hK hZ hI (mX6_at l G cy g p1 r1 hc) Y_X6_at V_X6_at l_X6_39 ⟨(Nat.le_of_ble_eq_true rfl), (Nat.le_of_ble_eq_true rfl)⟩ (rest := []) (st1 := [.int r1]) rfl hl.1 rfl rfl (Nat.le_of_ble_eq_true rfl) dX6_doNow_1 ⟨Nat.le_refl _, Nat.le_refl _⟩ (fun H locs hI => ?_)
  refine lv_istore_n (lv' := [(3, .int r1), (0, .ref (a 0)), (1, .int p1), (2, .int p2)]) hx hb dX6_doNow_4 rfl hl (by decide) rfl (fun ls hl => ?_)
  refine lv_aload_n hx hb dX6_doNow_5 rfl (lv_at hl 1 rfl) ?_
  refine bw_get S hK hI 0 0 rfl rfl (by decide) i_X6 f_X6_7 rfl dX6_doNow_6 ?_
  refine lv_iload_n hx hb dX6_doNow_9 rfl (lv_at hl 0 rfl) ?_
  refine lv_bipush (v := 6) hx hb dX6_doNow_10 (by decide) ?_
  refine lv_iadd hx hb dX6_doNow_12 ?_
  obtain ⟨v13, hv, h⟩ := bw_b1_e h
  refine bw_iald hx hb hK hI 1 hv rfl dX6_doNow_13 ?_
  refine lv_istore (lv' := [(4, .int v13), (3, .int r1), (0, .ref (a 0)), (1, .int p1), (2, .int p2)]) hx hb dX6_doNow_14 hl (by decide) rfl (fun ls hl => ?_)
  refine lv_iload_n hx hb dX6_doNow_16 rfl (lv_at hl 4 rfl) ?_
  refine lv_aload_n hx hb dX6_doNow_17 rfl (lv_at hl 2 rfl) ?_
  refine bw_get S hK hI 0 0 rfl rfl (by decide) i_X6 f_X6_7 rfl dX6_doNow_18 ?_
  refine lv_iload_n hx hb dX6_doNow_21 rfl (lv_at hl 1 rfl) ?_
  refine lv_bipush (v := 10) hx hb dX6_doNow_22 (by decide) ?_
  refine lv_iadd hx hb dX6_doNow_24 ?_
  refine lv_iload hx hb dX6_doNow_25 (lv_at hl 0 rfl) ?_
  refine lv_iadd hx hb dX6_doNow_27 ?_
  obtain ⟨v28, hv, h⟩ := bw_b1_e h
  refine bw_iald hx hb hK hI 1 hv rfl dX6_doNow_28 ?_
  refine lv_isub hx hb dX6_doNow_29 ?_
  refine lv_topi (fun x5_30 e_30 => ?_)
  have h := bw_let_e h e_30
  clear e_30
  refine lv_istore (lv' := [(5, .int x5_30), (4, .int v13), (3, .int r1), (0, .ref (a 0)), (1, .int p1), (2, .int p2)]) hx hb dX6_doNow_30 hl (by decide) rfl (fun ls hl => ?_)
  refine lv_aload_n hx hb dX6_doNow_32 rfl (lv_at hl 3 rfl) ?_
  refine lv_iconst (v := 0) hx hb dX6_doNow_33 rfl ?_
  refine bw_put S hK hI 0 9 (ws' := (bw_mW cy a z rows asd sm buf bm th od om 0 ca bo la pl to rd hh)) tyX6 tyX6_ok nmX6 rfl rfl (by decide) i_X6 f_X6_96 rfl rfl rfl rfl (Nat.le_of_ble_eq_true rfl) rfl dX6_doNow_34 (fun H locs hI => ?_)
  refine lv_aload_n hx hb dX6_doNow_37 rfl (lv_at hl 3 rfl) ?_
  refine lv_iconst (v := 0) hx hb dX6_doNow_38 rfl ?_
  refine bw_put S hK hI 0 10 (ws' := (bw_mW cy a z rows asd sm buf bm th od om 0 0 bo la pl to rd hh)) tyX6 tyX6_ok nmX6 rfl rfl (by decide) i_X6 f_X6_80 rfl rfl rfl rfl (Nat.le_of_ble_eq_true rfl) rfl dX6_doNow_39 (fun H locs hI => ?_)
  refine lv_aload_n hx hb dX6_doNow_42 rfl (lv_at hl 3 rfl) ?_
  refine lv_iconst (v := 0) hx hb dX6_doNow_43 rfl ?_
  refine bw_put S hK hI 0 11 (ws' := (bw_mW cy a z rows asd sm buf bm th od om 0 0 0 la pl to rd hh)) tyX6 tyX6_ok nmX6 rfl rfl (by decide) i_X6 f_X6_90 rfl rfl rfl rfl (Nat.le_of_ble_eq_true rfl) rfl dX6_doNow_44 (fun H locs hI => ?_)
  refine lv_aload_n hx hb dX6_doNow_47 rfl (lv_at hl 3 rfl) ?_
  refine lv_iconst (v := 0) hx hb dX6_doNow_48 rfl ?_
  refine bw_put S hK hI 0 12 (ws' := (bw_mW cy a z rows asd sm buf bm th od om 0 0 0 0 pl to rd hh)) tyX6 tyX6_ok nmX6 rfl rfl (by decide) i_X6 f_X6_93 rfl rfl rfl rfl (Nat.le_of_ble_eq_true rfl) rfl dX6_doNow_49 (fun H locs hI => ?_)
  refine lv_aload_n hx hb dX6_doNow_52 rfl (lv_at hl 3 rfl) ?_
  refine bw_get S hK hI 0 0 rfl rfl (by decide) i_X6 f_X6_7 rfl dX6_doNow_53 ?_
  refine lv_iload_n hx hb dX6_doNow_56 rfl (lv_at hl 2 rfl) ?_
  refine lv_bipush (v := 18) hx hb dX6_doNow_57 (by decide) ?_
  refine lv_iadd hx hb dX6_doNow_59 ?_
  refine lv_iload hx hb dX6_doNow_60 (lv_at hl 1 rfl) ?_
  refine lv_iadd hx hb dX6_doNow_62 ?_
  refine lv_iload_n hx hb dX6_doNow_63 rfl (lv_at hl 5 rfl) ?_
  obtain ⟨z_64, hv, h⟩ := bw_b1_e h
  refine bw_iast hx hb hK hI 1 (ws' := (bw_mW cy a z_64 rows asd sm buf bm th od om 0 0 0 0 pl to rd hh)) hv rfl rfl dX6_doNow_64 (fun H locs hI => ?_)
  refine lv_iload hx hb dX6_doNow_65 (lv_at hl 0 rfl) ?_
  refine lv_if_le (tgt := 80) hx hb dX6_doNow_67 (by decide) (fun c_67 => ?_) (fun c_67 => ?_)
  · rw [if_pos c_67] at h
    refine lv_aload_n hx hb dX6_doNow_80 rfl (lv_at hl 3 rfl) ?_
    refine bw_get S hK hI 0 0 rfl rfl (by decide) i_X6 f_X6_7 rfl dX6_doNow_81 ?_
    refine lv_iload_n hx hb dX6_doNow_84 rfl (lv_at hl 2 rfl) ?_
    refine lv_iconst (v := 2) hx hb dX6_doNow_85 rfl ?_
    refine lv_iadd hx hb dX6_doNow_86 ?_
    refine lv_dup2_11 hx hb dX6_doNow_87 rfl rfl ?_
    obtain ⟨v88, hv, h⟩ := bw_b1_e h
    refine bw_iald hx hb hK hI 1 hv rfl dX6_doNow_88 ?_
    refine lv_iload hx hb dX6_doNow_89 (lv_at hl 0 rfl) ?_
    refine lv_isub hx hb dX6_doNow_91 ?_
    obtain ⟨z_92, hv, h⟩ := bw_b1_e h
    refine bw_iast hx hb hK hI 1 (ws' := (bw_mW cy a z_92 rows asd sm buf bm th od om 0 0 0 0 pl to rd hh)) hv rfl rfl dX6_doNow_92 (fun H locs hI => ?_)
    refine lv_aload_n hx hb dX6_doNow_93 rfl (lv_at hl 3 rfl) ?_
    refine bw_get S hK hI 0 0 rfl rfl (by decide) i_X6 f_X6_7 rfl dX6_doNow_94 ?_
    refine lv_iload_n hx hb dX6_doNow_97 rfl (lv_at hl 2 rfl) ?_
    refine lv_iconst (v := 3) hx hb dX6_doNow_98 rfl ?_
    refine lv_iadd hx hb dX6_doNow_99 ?_
    refine lv_dup2_11 hx hb dX6_doNow_100 rfl rfl ?_
    obtain ⟨v101, hv, h⟩ := bw_b1_e h
    refine bw_iald hx hb hK hI 1 hv rfl dX6_doNow_101 ?_
    refine lv_iload hx hb dX6_doNow_102 (lv_at hl 0 rfl) ?_
    refine lv_iadd hx hb dX6_doNow_104 ?_
    obtain ⟨z_105, hv, h⟩ := bw_b1_e h
    refine bw_iast hx hb hK hI 1 (ws' := (bw_mW cy a z_105 rows asd sm buf bm th od om 0 0 0 0 pl to rd hh)) hv rfl rfl dX6_doNow_105 (fun H locs hI => ?_)
    refine lv_aload_n hx hb dX6_doNow_106 rfl (lv_at hl 3 rfl) ?_
    refine lv_iload_n hx hb dX6_doNow_107 rfl (lv_at hl 4 rfl) ?_
    refine lv_iload hx hb dX6_doNow_108 (lv_at hl 0 rfl) ?_
    refine lv_ineg hx hb dX6_doNow_110 ?_
    obtain ⟨z_111, hc, h⟩ := bw_b1_e h
    refine bw_callV S hK hZ hI (mX6_payAll l G cy g a z_105 rows asd sm buf bm th od om 0 0 0 0 pl to rd hh p1 (-x5_30) z_111 hc) Y_X6_payAll V_X6_payAll l_X6_108 ⟨(Nat.le_of_ble_eq_true rfl), (Nat.le_of_ble_eq_true rfl)⟩ (q0 := 0) rfl rfl rfl (ws' := (bw_mW cy a z_111 rows asd sm buf bm th od om 0 0 0 0 pl to rd hh)) (bw_pS _) (bw_pS' _) rfl rfl hl.1 (rest := []) (st1 := []) rfl rfl (Nat.le_of_ble_eq_true rfl) dX6_doNow_111 ⟨Nat.le_refl _, Nat.le_refl _⟩ (fun H locs hI => ?_)
    exact j114 z_111 od om 0 0 0 0 p1 r1 v13 _ _ _ h hI (lv_sub hl [3,4,2,1] rfl)
  rw [if_neg c_67] at h
  refine lv_aload_n hx hb dX6_doNow_70 rfl (lv_at hl 3 rfl) ?_
  refine lv_iload_n hx hb dX6_doNow_71 rfl (lv_at hl 4 rfl) ?_
  refine lv_iload hx hb dX6_doNow_72 (lv_at hl 0 rfl) ?_
  obtain ⟨z_74, od_74, om_74, ow_74, ca_74, bo_74, la_74, hc, h⟩ := bw_b7_e h
  refine bw_callV S hK hZ hI (mX6_charge l G cy g a z_64 rows asd sm buf bm th od om 0 0 0 0 pl to rd hh p1 x5_30 z_74 od_74 om_74 ow_74 ca_74 bo_74 la_74 hc) Y_X6_charge V_X6_charge l_X6_105 ⟨(Nat.le_of_ble_eq_true rfl), (Nat.le_of_ble_eq_true rfl)⟩ (q0 := 0) rfl rfl rfl (ws' := (bw_mW cy a z_74 rows asd sm buf bm th od_74 om_74 ow_74 ca_74 bo_74 la_74 pl to rd hh)) (bw_pS _) (bw_pS' _) rfl rfl hl.1 (rest := []) (st1 := []) rfl rfl (Nat.le_of_ble_eq_true rfl) dX6_doNow_74 ⟨Nat.le_refl _, Nat.le_refl _⟩ (fun H locs hI => ?_)
  refine lv_goto (tgt := 114) hx hb dX6_doNow_77 (by decide) ?_
  exact j114 z_74 od_74 om_74 ow_74 ca_74 bo_74 la_74 p1 r1 v13 _ _ _ h hI (lv_sub hl [3,4,2,1] rfl)
set_option maxHeartbeats 4000000 in
set_option maxRecDepth 100000 in
theorem mX6_openNow (l : Launch) (G : va_G) (cy : Nat → ClassId) (g : Nat) (a : Nat → Nat) (z : bw_A1) (rows : bw_A1) (asd : bw_A1) (sm : Int32) (buf : bw_A1) (bm : Int32) (th : Int32) (od : bw_A1) (om : Int32) (ow : Int32) (ca : Int32) (bo : Int32) (la : Int32) (pl : Int32) (to : Int32) (rd : bw_A1) (hh : Int64) (p1 : Int32) (p2 : Int32) (z' : bw_A1) (h : fX6_openNow z p1 p2 = some z') : bw_M l yX6_openNow cX6_openNow 5 none 1 20 G cy g [.ref (a 0), .int p1, .int p2] (bw_mW cy a z rows asd sm buf bm th od om ow ca bo la pl to rd hh) none (bw_mW cy a z' rows asd sm buf bm th od om ow ca bo la pl to rd hh) := by
  refine bw_ofW (by decide +kernel) RX6 rfl (Nat.le_of_ble_eq_true rfl) ?_
  intro p e s m below meth c ls S hr hlocks hK hZ hI hl
  have hx := S.1
  have hb := S.2.1
  have hown := S.2.2.2.1
  have hts := S.2.2.2.2
  generalize va_A _ s.heap.size = A at hI hZ ⊢
  generalize hQ : MQ below _ _ s 0 0 A = Q
  have hl : lv_has ls 5 [(0, .ref (a 0)), (1, .int p1), (2, .int p2)] := hl
  have l13 : ∀ (x1 : Int32) (x2 : Int32) (x3 : Int32) (n : Nat) (H : Heap) (locs : List Loc) (ls : Array Slot) (z : bw_A1) (x4 : Int32), lX6_openNow_13 x1 x2 x3 n z x4 = some z' → bw_I G A s.heap (bw_mW cy a z rows asd sm buf bm th od om ow ca bo la pl to rd hh) H locs → lv_has ls 5 [(0, .ref (a 0)), (1, .int x1), (2, .int x2), (3, .int x3), (4, .int x4)] → W p l e (bw_rm 1 20) s m [.ref (a 0), .int p1, .int p2].toArray below meth c H locs 0 0 Q (F0 m 13 ls []) := by
    intro x1 x2 x3 n
    induction n with
    | zero => intro H locs ls z x4 h; exact bw_none h
    | succ n ih =>
      intro H locs ls z x4 h hI hl
      have h : bX6_openNow_13  (lX6_openNow_13 x1 x2 x3 n) x1 x2 x3 z x4 = some z' := h
      unfold bX6_openNow_13 at h
      refine lv_iload hx hb dX6_openNow_13 (lv_at hl 4 rfl) ?_
      refine lv_bipush (v := 58) hx hb dX6_openNow_15 (by decide) ?_
      refine lv_icmp_ge (tgt := 36) hx hb dX6_openNow_17 (by decide) (fun c_17 => ?_) (fun c_17 => ?_)
      · rw [if_pos c_17] at h
        refine lv_aload_n hx hb dX6_openNow_36 rfl (lv_at hl 0 rfl) ?_
        refine bw_get S hK hI 0 0 rfl rfl (by decide) i_X6 f_X6_7 rfl dX6_openNow_37 ?_
        refine lv_iload_n hx hb dX6_openNow_40 rfl (lv_at hl 3 rfl) ?_
        refine lv_iload_n hx hb dX6_openNow_41 rfl (lv_at hl 1 rfl) ?_
        obtain ⟨z_42, hv, h⟩ := bw_b1_e h
        refine bw_iast hx hb hK hI 1 (ws' := (bw_mW cy a z_42 rows asd sm buf bm th od om ow ca bo la pl to rd hh)) hv rfl rfl dX6_openNow_42 (fun H locs hI => ?_)
        refine lv_aload_n hx hb dX6_openNow_43 rfl (lv_at hl 0 rfl) ?_
        refine bw_get S hK hI 0 0 rfl rfl (by decide) i_X6 f_X6_7 rfl dX6_openNow_44 ?_
        refine lv_iload_n hx hb dX6_openNow_47 rfl (lv_at hl 3 rfl) ?_
        refine lv_iconst (v := 1) hx hb dX6_openNow_48 rfl ?_
        refine lv_iadd hx hb dX6_openNow_49 ?_
        refine lv_iload_n hx hb dX6_openNow_50 rfl (lv_at hl 2 rfl) ?_
        obtain ⟨z_51, hv, h⟩ := bw_b1_e h
        refine bw_iast hx hb hK hI 1 (ws' := (bw_mW cy a z_51 rows asd sm buf bm th od om ow ca bo la pl to rd hh)) hv rfl rfl dX6_openNow_51 (fun H locs hI => ?_)
        refine lv_aload_n hx hb dX6_openNow_52 rfl (lv_at hl 0 rfl) ?_
        refine bw_get S hK hI 0 0 rfl rfl (by decide) i_X6 f_X6_7 rfl dX6_openNow_53 ?_
        refine lv_iload_n hx hb dX6_openNow_56 rfl (lv_at hl 3 rfl) ?_
        refine lv_iconst (v := 2) hx hb dX6_openNow_57 rfl ?_
        refine lv_iadd hx hb dX6_openNow_58 ?_
        refine lv_iload_n hx hb dX6_openNow_59 rfl (lv_at hl 2 rfl) ?_
        obtain ⟨z_60, hv, h⟩ := bw_b1_e h
        refine bw_iast hx hb hK hI 1 (ws' := (bw_mW cy a z_60 rows asd sm buf bm th od om ow ca bo la pl to rd hh)) hv rfl rfl dX6_openNow_60 (fun H locs hI => ?_)
        refine lv_aload_n hx hb dX6_openNow_61 rfl (lv_at hl 0 rfl) ?_
        refine bw_get S hK hI 0 0 rfl rfl (by decide) i_X6 f_X6_7 rfl dX6_openNow_62 ?_
        refine lv_iload_n hx hb dX6_openNow_65 rfl (lv_at hl 3 rfl) ?_
        refine lv_bipush (v := 7) hx hb dX6_openNow_66 (by decide) ?_
        refine lv_iadd hx hb dX6_openNow_68 ?_
        refine lv_iconst (v := 1) hx hb dX6_openNow_69 rfl ?_
        obtain ⟨z_70, hv, h⟩ := bw_b1_e h
        refine bw_iast hx hb hK hI 1 (ws' := (bw_mW cy a z_70 rows asd sm buf bm th od om ow ca bo la pl to rd hh)) hv rfl rfl dX6_openNow_70 (fun H locs hI => ?_)
        refine lv_aload_n hx hb dX6_openNow_71 rfl (lv_at hl 0 rfl) ?_
        refine bw_get S hK hI 0 0 rfl rfl (by decide) i_X6 f_X6_7 rfl dX6_openNow_72 ?_
        refine lv_iconst (v := 0) hx hb dX6_openNow_75 rfl ?_
        refine lv_dup2_11 hx hb dX6_openNow_76 rfl rfl ?_
        obtain ⟨v77, hv, h⟩ := bw_b1_e h
        refine bw_iald hx hb hK hI 1 hv rfl dX6_openNow_77 ?_
        refine lv_iconst (v := 1) hx hb dX6_openNow_78 rfl ?_
        refine lv_iadd hx hb dX6_openNow_79 ?_
        obtain ⟨z_80, hv, h⟩ := bw_b1_e h
        refine bw_iast hx hb hK hI 1 (ws' := (bw_mW cy a z_80 rows asd sm buf bm th od om ow ca bo la pl to rd hh)) hv rfl rfl dX6_openNow_80 (fun H locs hI => ?_)
        subst hQ
        exact bw_vret S hr hlocks h (fun q : bw_A1 => (bw_mW cy a q rows asd sm buf bm th od om ow ca bo la pl to rd hh)) hI dX6_openNow_81
      rw [if_neg c_17] at h
      refine lv_aload_n hx hb dX6_openNow_20 rfl (lv_at hl 0 rfl) ?_
      refine bw_get S hK hI 0 0 rfl rfl (by decide) i_X6 f_X6_7 rfl dX6_openNow_21 ?_
      refine lv_iload_n hx hb dX6_openNow_24 rfl (lv_at hl 3 rfl) ?_
      refine lv_iload hx hb dX6_openNow_25 (lv_at hl 4 rfl) ?_
      refine lv_iadd hx hb dX6_openNow_27 ?_
      refine lv_iconst (v := 0) hx hb dX6_openNow_28 rfl ?_
      obtain ⟨z_29, hv, h⟩ := bw_b1_e h
      refine bw_iast hx hb hK hI 1 (ws' := (bw_mW cy a z_29 rows asd sm buf bm th od om ow ca bo la pl to rd hh)) hv rfl rfl dX6_openNow_29 (fun H locs hI => ?_)
      obtain ⟨x4_30, e_30⟩ : ∃ y : Int32, y = x4 + 1 := ⟨_, rfl⟩
      have h := bw_let_e h e_30
      refine lv_iinc (v := x4_30) (lv' := [(4, .int x4_30), (0, .ref (a 0)), (1, .int x1), (2, .int x2), (3, .int x3)]) hx hb dX6_openNow_30 hl (k := 4) rfl (by rw [e_30]; rfl) (by decide) rfl (fun ls hl => ?_)
      clear e_30
      refine lv_goto (tgt := 13) hx hb dX6_openNow_33 (by decide) ?_
      exact ih _ _ _ z_29 x4_30 h hI (lv_sub hl [1,2,3,4,0] rfl)
  unfold fX6_openNow at h
  refine lv_aload_n hx hb dX6_openNow_0 rfl (lv_at hl 0 rfl) ?_
  refine bw_get S hK hI 0 0 rfl rfl (by decide) i_X6 f_X6_7 rfl dX6_openNow_1 ?_
  refine lv_iconst (v := 0) hx hb dX6_openNow_4 rfl ?_
  obtain ⟨v5, hv, h⟩ := bw_b1_e h
  refine bw_iald hx hb hK hI 1 hv rfl dX6_openNow_5 ?_
  obtain ⟨r6, hc, h⟩ := bw_b1_e h
  refine bw_callP S hK hZ hI (mX6_at l G cy g v5 r6 hc) Y_X6_at V_X6_at l_X6_39 ⟨(Nat.le_of_ble_eq_true rfl), (Nat.le_of_ble_eq_true rfl)⟩ (rest := []) (st1 := [.int r6]) rfl hl.1 rfl rfl (Nat.le_of_ble_eq_true rfl) dX6_openNow_6 ⟨Nat.le_refl _, Nat.le_refl _⟩ (fun H locs hI => ?_)
  refine lv_istore_n (lv' := [(3, .int r6), (0, .ref (a 0)), (1, .int p1), (2, .int p2)]) hx hb dX6_openNow_9 rfl hl (by decide) rfl (fun ls hl => ?_)
  refine lv_iconst (v := 0) hx hb dX6_openNow_10 rfl ?_
  refine lv_istore (lv' := [(4, .int 0), (3, .int r6), (0, .ref (a 0)), (1, .int p1), (2, .int p2)]) hx hb dX6_openNow_11 hl (by decide) rfl (fun ls hl => ?_)
  exact l13 p1 p2 r6 bw_fu _ _ _ z 0 h hI (lv_sub hl [2,3,4,1,0] rfl)
set_option maxHeartbeats 4000000 in
set_option maxRecDepth 100000 in
theorem mX6_isRank (l : Launch) (G : va_G) (cy : Nat → ClassId) (g : Nat) (p0 : Int32) (r : Int32) (h : fX6_isRank p0 = some r) : bw_M l yX6_isRank cX6_isRank 1 (some .boolean) 1 22 G cy g [.int p0] [] (some (.int r)) [] := by
  refine bw_ofW (by decide +kernel) RX6 rfl (Nat.le_of_ble_eq_true rfl) ?_
  intro p e s m below meth c ls S hr hlocks hK hZ hI hl
  have hx := S.1
  have hb := S.2.1
  have hown := S.2.2.2.1
  have hts := S.2.2.2.2
  generalize va_A _ s.heap.size = A at hI hZ ⊢
  generalize hQ : MQ below _ _ s 0 0 A = Q
  have hl : lv_has ls 1 [(0, .int p0)] := hl
  unfold fX6_isRank at h
  refine lv_iload_n hx hb dX6_isRank_0 rfl (lv_at hl 0 rfl) ?_
  refine lv_iconst (v := 1) hx hb dX6_isRank_1 rfl ?_
  refine lv_bipush (v := 9) hx hb dX6_isRank_2 (by decide) ?_
  obtain ⟨r4, hc, h⟩ := bw_b1_e h
  refine bw_callP S hK hZ hI (mX6_in l G cy g p0 1 9 r4 hc) Y_X6_in V_X6_in l_X6_35 ⟨(Nat.le_of_ble_eq_true rfl), (Nat.le_of_ble_eq_true rfl)⟩ (rest := []) (st1 := [.int r4]) rfl hl.1 rfl rfl (Nat.le_of_ble_eq_true rfl) dX6_isRank_4 ⟨Nat.le_refl _, Nat.le_refl _⟩ (fun H locs hI => ?_)
  subst hQ
  obtain ⟨h9, h⟩ := bw_bool_e h
  exact bw_iretP S hr hlocks h hI h9 dX6_isRank_7
set_option maxHeartbeats 4000000 in
set_option maxRecDepth 100000 in
theorem mX6_open (l : Launch) (G : va_G) (cy : Nat → ClassId) (g : Nat) (a : Nat → Nat) (z : bw_A1) (rows : bw_A1) (asd : bw_A1) (sm : Int32) (buf : bw_A1) (bm : Int32) (th : Int32) (od : bw_A1) (om : Int32) (ow : Int32) (ca : Int32) (bo : Int32) (la : Int32) (pl : Int32) (to : Int32) (rd : bw_A1) (hh : Int64) (p1 : Int32) (p2 : Int32) (r : Int32) (z' : bw_A1) (rows' : bw_A1) (sm' : Int32) (th' : Int32) (h : fX6_open z rows sm th p1 p2 = some (r, z', rows', sm', th')) : bw_M l yX6_open cX6_open 3 (some .int) 2 44 G cy g [.ref (a 0), .int p1, .int p2] (bw_mW cy a z rows asd sm buf bm th od om ow ca bo la pl to rd hh) (some (.int r)) (bw_mW cy a z' rows' asd sm' buf bm th' od om ow ca bo la pl to rd hh) := by
  refine bw_ofW (by decide +kernel) RX6 rfl (Nat.le_of_ble_eq_true rfl) ?_
  intro p e s m below meth c ls S hr hlocks hK hZ hI hl
  have hx := S.1
  have hb := S.2.1
  have hown := S.2.2.2.1
  have hts := S.2.2.2.2
  generalize va_A _ s.heap.size = A at hI hZ ⊢
  generalize hQ : MQ below _ _ s 0 0 A = Q
  have hl : lv_has ls 3 [(0, .ref (a 0)), (1, .int p1), (2, .int p2)] := hl
  have j22 : ∀ (z : bw_A1) (rows : bw_A1) (sm : Int32) (th : Int32) (H : Heap) (locs : List Loc) (ls : Array Slot), jX6_open_22 z rows sm th = some (r, z', rows', sm', th') → bw_I G A s.heap (bw_mW cy a z rows asd sm buf bm th od om ow ca bo la pl to rd hh) H locs → lv_has ls 3 [(0, .ref (a 0))] → W p l e (bw_rm 2 44) s m [.ref (a 0), .int p1, .int p2].toArray below meth c H locs 0 0 Q (F0 m 22 ls []) := by
    intro z rows sm th H locs ls h hI hl
    unfold jX6_open_22 at h
    refine lv_aload_n hx hb dX6_open_22 rfl (lv_at hl 0 rfl) ?_
    refine lv_iconst (v := 1) hx hb dX6_open_23 rfl ?_
    obtain ⟨r24, th_24, hc, h⟩ := bw_b2_e h
    refine bw_callV S hK hZ hI (mX6_fails l G cy g a z rows asd sm buf bm th od om ow ca bo la pl to rd hh 1 r24 th_24 hc) Y_X6_fails V_X6_fails l_X6_114 ⟨(Nat.le_of_ble_eq_true rfl), (Nat.le_of_ble_eq_true rfl)⟩ (q0 := 0) rfl rfl rfl (ws' := (bw_mW cy a z rows asd sm buf bm th_24 od om ow ca bo la pl to rd hh)) (bw_pS _) (bw_pS' _) rfl rfl hl.1 (rest := []) (st1 := [.int r24]) rfl rfl (Nat.le_of_ble_eq_true rfl) dX6_open_24 ⟨Nat.le_refl _, Nat.le_refl _⟩ (fun H locs hI => ?_)
    subst hQ
    exact bw_iret (rr := (r, z', rows', sm', th')) S hr hlocks h (fun q : (bw_A1 × bw_A1 × Int32 × Int32) => (bw_mW cy a q.1 q.2.1 asd q.2.2.1 buf bm q.2.2.2 od om ow ca bo la pl to rd hh)) hI rfl dX6_open_27
  unfold fX6_open at h
  refine lv_aload_n hx hb dX6_open_0 rfl (lv_at hl 0 rfl) ?_
  refine lv_iconst (v := 0) hx hb dX6_open_1 rfl ?_
  refine bw_put S hK hI 0 6 (ws' := (bw_mW cy a z rows asd sm buf bm 0 od om ow ca bo la pl to rd hh)) tyX6 tyX6_ok nmX6 rfl rfl (by decide) i_X6 f_X6_28 rfl rfl rfl rfl (Nat.le_of_ble_eq_true rfl) rfl dX6_open_2 (fun H locs hI => ?_)
  refine lv_iload_n hx hb dX6_open_5 rfl (lv_at hl 1 rfl) ?_
  obtain ⟨r6, hc, h⟩ := bw_b1_e h
  refine bw_callP S hK hZ hI (mX6_isRank l G cy g p1 r6 hc) Y_X6_isRank V_X6_isRank l_X6_111 ⟨(Nat.le_of_ble_eq_true rfl), (Nat.le_of_ble_eq_true rfl)⟩ (rest := []) (st1 := [.int r6]) rfl hl.1 rfl rfl (Nat.le_of_ble_eq_true rfl) dX6_open_6 ⟨Nat.le_refl _, Nat.le_refl _⟩ (fun H locs hI => ?_)
  refine lv_if_eq (tgt := 22) hx hb dX6_open_9 (by decide) (fun c_9 => ?_) (fun c_9 => ?_)
  · rw [if_pos c_9] at h
    exact j22 z rows sm 0 _ _ _ h hI (lv_sub hl [0] rfl)
  rw [if_neg c_9] at h
  refine lv_iload_n hx hb dX6_open_12 rfl (lv_at hl 2 rfl) ?_
  refine lv_iconst (v := 0) hx hb dX6_open_13 rfl ?_
  refine lv_bipush (v := 99) hx hb dX6_open_14 (by decide) ?_
  obtain ⟨r16, hc, h⟩ := bw_b1_e h
  refine bw_callP S hK hZ hI (mX6_in l G cy g p2 0 99 r16 hc) Y_X6_in V_X6_in l_X6_35 ⟨(Nat.le_of_ble_eq_true rfl), (Nat.le_of_ble_eq_true rfl)⟩ (rest := []) (st1 := [.int r16]) rfl hl.1 rfl rfl (Nat.le_of_ble_eq_true rfl) dX6_open_16 ⟨Nat.le_refl _, Nat.le_refl _⟩ (fun H locs hI => ?_)
  refine lv_if_ne (tgt := 28) hx hb dX6_open_19 (by decide) (fun c_19 => ?_) (fun c_19 => ?_)
  · rw [if_neg c_19] at h
    refine lv_aload_n hx hb dX6_open_28 rfl (lv_at hl 0 rfl) ?_
    refine bw_get S hK hI 0 0 rfl rfl (by decide) i_X6 f_X6_7 rfl dX6_open_29 ?_
    refine lv_iconst (v := 0) hx hb dX6_open_32 rfl ?_
    obtain ⟨v33, hv, h⟩ := bw_b1_e h
    refine bw_iald hx hb hK hI 1 hv rfl dX6_open_33 ?_
    refine lv_bipush (v := 6) hx hb dX6_open_34 (by decide) ?_
    refine lv_icmp_ne (tgt := 45) hx hb dX6_open_36 (by decide) (fun c_36 => ?_) (fun c_36 => ?_)
    · rw [if_neg c_36] at h
      refine lv_aload_n hx hb dX6_open_45 rfl (lv_at hl 0 rfl) ?_
      obtain ⟨rows_46, sm_46, hc, h⟩ := bw_b2_e h
      refine bw_callV S hK hZ hI (mX6_save l G cy g a z rows asd sm buf bm 0 od om ow ca bo la pl to rd hh rows_46 sm_46 hc) Y_X6_save V_X6_save l_X6_117 ⟨(Nat.le_of_ble_eq_true rfl), (Nat.le_of_ble_eq_true rfl)⟩ (q0 := 0) rfl rfl rfl (ws' := (bw_mW cy a z rows_46 asd sm_46 buf bm 0 od om ow ca bo la pl to rd hh)) (bw_pS _) (bw_pS' _) rfl rfl hl.1 (rest := []) (st1 := []) rfl rfl (Nat.le_of_ble_eq_true rfl) dX6_open_46 ⟨Nat.le_refl _, Nat.le_refl _⟩ (fun H locs hI => ?_)
      refine lv_aload_n hx hb dX6_open_49 rfl (lv_at hl 0 rfl) ?_
      refine lv_iload_n hx hb dX6_open_50 rfl (lv_at hl 1 rfl) ?_
      refine lv_iload_n hx hb dX6_open_51 rfl (lv_at hl 2 rfl) ?_
      obtain ⟨z_52, hc, h⟩ := bw_b1_e h
      refine bw_callV S hK hZ hI (mX6_openNow l G cy g a z rows_46 asd sm_46 buf bm 0 od om ow ca bo la pl to rd hh p1 p2 z_52 hc) Y_X6_openNow V_X6_openNow l_X6_120 ⟨(Nat.le_of_ble_eq_true rfl), (Nat.le_of_ble_eq_true rfl)⟩ (q0 := 0) rfl rfl rfl (ws' := (bw_mW cy a z_52 rows_46 asd sm_46 buf bm 0 od om ow ca bo la pl to rd hh)) (bw_pS _) (bw_pS' _) rfl rfl hl.1 (rest := []) (st1 := []) rfl rfl (Nat.le_of_ble_eq_true rfl) dX6_open_52 ⟨Nat.le_refl _, Nat.le_refl _⟩ (fun H locs hI => ?_)
      refine lv_aload_n hx hb dX6_open_55 rfl (lv_at hl 0 rfl) ?_
      refine bw_get S hK hI 0 0 rfl rfl (by decide) i_X6 f_X6_7 rfl dX6_open_56 ?_
      refine lv_iconst (v := 0) hx hb dX6_open_59 rfl ?_
      obtain ⟨v60, hv, h⟩ := bw_b1_e h
      refine bw_iald hx hb hK hI 1 hv rfl dX6_open_60 ?_
      refine lv_iconst (v := 1) hx hb dX6_open_61 rfl ?_
      refine lv_isub hx hb dX6_open_62 ?_
      subst hQ
      exact bw_iret (rr := (r, z', rows', sm', th')) S hr hlocks h (fun q : (bw_A1 × bw_A1 × Int32 × Int32) => (bw_mW cy a q.1 q.2.1 asd q.2.2.1 buf bm q.2.2.2 od om ow ca bo la pl to rd hh)) hI rfl dX6_open_63
    rw [if_pos c_36] at h
    refine lv_aload_n hx hb dX6_open_39 rfl (lv_at hl 0 rfl) ?_
    refine lv_iconst (v := 2) hx hb dX6_open_40 rfl ?_
    obtain ⟨r41, th_41, hc, h⟩ := bw_b2_e h
    refine bw_callV S hK hZ hI (mX6_fails l G cy g a z rows asd sm buf bm 0 od om ow ca bo la pl to rd hh 2 r41 th_41 hc) Y_X6_fails V_X6_fails l_X6_114 ⟨(Nat.le_of_ble_eq_true rfl), (Nat.le_of_ble_eq_true rfl)⟩ (q0 := 0) rfl rfl rfl (ws' := (bw_mW cy a z rows asd sm buf bm th_41 od om ow ca bo la pl to rd hh)) (bw_pS _) (bw_pS' _) rfl rfl hl.1 (rest := []) (st1 := [.int r41]) rfl rfl (Nat.le_of_ble_eq_true rfl) dX6_open_41 ⟨Nat.le_refl _, Nat.le_refl _⟩ (fun H locs hI => ?_)
    subst hQ
    exact bw_iret (rr := (r, z', rows', sm', th')) S hr hlocks h (fun q : (bw_A1 × bw_A1 × Int32 × Int32) => (bw_mW cy a q.1 q.2.1 asd q.2.2.1 buf bm q.2.2.2 od om ow ca bo la pl to rd hh)) hI rfl dX6_open_44
  rw [if_pos c_19] at h
  exact j22 z rows sm 0 _ _ _ h hI (lv_sub hl [0] rfl)
set_option maxHeartbeats 4000000 in
set_option maxRecDepth 100000 in
theorem mX6_planNow (l : Launch) (G : va_G) (cy : Nat → ClassId) (g : Nat) (a : Nat → Nat) (z : bw_A1) (rows : bw_A1) (asd : bw_A1) (sm : Int32) (buf : bw_A1) (bm : Int32) (th : Int32) (od : bw_A1) (om : Int32) (ow : Int32) (ca : Int32) (bo : Int32) (la : Int32) (pl : Int32) (to : Int32) (rd : bw_A1) (hh : Int64) (p1 : Int32) (p2 : Int32) (z' : bw_A1) (h : fX6_planNow z p1 p2 = some z') : bw_M l yX6_planNow cX6_planNow 4 none 1 20 G cy g [.ref (a 0), .int p1, .int p2] (bw_mW cy a z rows asd sm buf bm th od om ow ca bo la pl to rd hh) none (bw_mW cy a z' rows asd sm buf bm th od om ow ca bo la pl to rd hh) := by
  refine bw_ofW (by decide +kernel) RX6 rfl (Nat.le_of_ble_eq_true rfl) ?_
  intro p e s m below meth c ls S hr hlocks hK hZ hI hl
  have hx := S.1
  have hb := S.2.1
  have hown := S.2.2.2.1
  have hts := S.2.2.2.2
  generalize va_A _ s.heap.size = A at hI hZ ⊢
  generalize hQ : MQ below _ _ s 0 0 A = Q
  have hl : lv_has ls 4 [(0, .ref (a 0)), (1, .int p1), (2, .int p2)] := hl
  unfold fX6_planNow at h
  refine lv_iload_n hx hb dX6_planNow_0 rfl (lv_at hl 1 rfl) ?_
  obtain ⟨r1, hc, h⟩ := bw_b1_e h
  refine bw_callP S hK hZ hI (mX6_at l G cy g p1 r1 hc) Y_X6_at V_X6_at l_X6_39 ⟨(Nat.le_of_ble_eq_true rfl), (Nat.le_of_ble_eq_true rfl)⟩ (rest := []) (st1 := [.int r1]) rfl hl.1 rfl rfl (Nat.le_of_ble_eq_true rfl) dX6_planNow_1 ⟨Nat.le_refl _, Nat.le_refl _⟩ (fun H locs hI => ?_)
  refine lv_istore_n (lv' := [(3, .int r1), (0, .ref (a 0)), (1, .int p1), (2, .int p2)]) hx hb dX6_planNow_4 rfl hl (by decide) rfl (fun ls hl => ?_)
  refine lv_aload_n hx hb dX6_planNow_5 rfl (lv_at hl 1 rfl) ?_
  refine bw_get S hK hI 0 0 rfl rfl (by decide) i_X6 f_X6_7 rfl dX6_planNow_6 ?_
  refine lv_iload_n hx hb dX6_planNow_9 rfl (lv_at hl 0 rfl) ?_
  refine lv_bipush (v := 10) hx hb dX6_planNow_10 (by decide) ?_
  refine lv_iadd hx hb dX6_planNow_12 ?_
  refine lv_aload_n hx hb dX6_planNow_13 rfl (lv_at hl 1 rfl) ?_
  refine bw_get S hK hI 0 0 rfl rfl (by decide) i_X6 f_X6_7 rfl dX6_planNow_14 ?_
  refine lv_iload_n hx hb dX6_planNow_17 rfl (lv_at hl 0 rfl) ?_
  refine lv_iconst (v := 5) hx hb dX6_planNow_18 rfl ?_
  refine lv_iadd hx hb dX6_planNow_19 ?_
  obtain ⟨v20, hv, h⟩ := bw_b1_e h
  refine bw_iald hx hb hK hI 1 hv rfl dX6_planNow_20 ?_
  refine lv_iadd hx hb dX6_planNow_21 ?_
  refine lv_iload_n hx hb dX6_planNow_22 rfl (lv_at hl 3 rfl) ?_
  obtain ⟨z_23, hv, h⟩ := bw_b1_e h
  refine bw_iast hx hb hK hI 1 (ws' := (bw_mW cy a z_23 rows asd sm buf bm th od om ow ca bo la pl to rd hh)) hv rfl rfl dX6_planNow_23 (fun H locs hI => ?_)
  refine lv_aload_n hx hb dX6_planNow_24 rfl (lv_at hl 1 rfl) ?_
  refine bw_get S hK hI 0 0 rfl rfl (by decide) i_X6 f_X6_7 rfl dX6_planNow_25 ?_
  refine lv_iload_n hx hb dX6_planNow_28 rfl (lv_at hl 0 rfl) ?_
  refine lv_bipush (v := 18) hx hb dX6_planNow_29 (by decide) ?_
  refine lv_iadd hx hb dX6_planNow_31 ?_
  refine lv_aload_n hx hb dX6_planNow_32 rfl (lv_at hl 1 rfl) ?_
  refine bw_get S hK hI 0 0 rfl rfl (by decide) i_X6 f_X6_7 rfl dX6_planNow_33 ?_
  refine lv_iload_n hx hb dX6_planNow_36 rfl (lv_at hl 0 rfl) ?_
  refine lv_iconst (v := 5) hx hb dX6_planNow_37 rfl ?_
  refine lv_iadd hx hb dX6_planNow_38 ?_
  obtain ⟨v39, hv, h⟩ := bw_b1_e h
  refine bw_iald hx hb hK hI 1 hv rfl dX6_planNow_39 ?_
  refine lv_iadd hx hb dX6_planNow_40 ?_
  refine lv_iconst (v := (-1)) hx hb dX6_planNow_41 rfl ?_
  obtain ⟨z_42, hv, h⟩ := bw_b1_e h
  refine bw_iast hx hb hK hI 1 (ws' := (bw_mW cy a z_42 rows asd sm buf bm th od om ow ca bo la pl to rd hh)) hv rfl rfl dX6_planNow_42 (fun H locs hI => ?_)
  refine lv_aload_n hx hb dX6_planNow_43 rfl (lv_at hl 1 rfl) ?_
  refine bw_get S hK hI 0 0 rfl rfl (by decide) i_X6 f_X6_7 rfl dX6_planNow_44 ?_
  refine lv_iload_n hx hb dX6_planNow_47 rfl (lv_at hl 0 rfl) ?_
  refine lv_iconst (v := 5) hx hb dX6_planNow_48 rfl ?_
  refine lv_iadd hx hb dX6_planNow_49 ?_
  refine lv_dup2_11 hx hb dX6_planNow_50 rfl rfl ?_
  obtain ⟨v51, hv, h⟩ := bw_b1_e h
  refine bw_iald hx hb hK hI 1 hv rfl dX6_planNow_51 ?_
  refine lv_iconst (v := 1) hx hb dX6_planNow_52 rfl ?_
  refine lv_iadd hx hb dX6_planNow_53 ?_
  obtain ⟨z_54, hv, h⟩ := bw_b1_e h
  refine bw_iast hx hb hK hI 1 (ws' := (bw_mW cy a z_54 rows asd sm buf bm th od om ow ca bo la pl to rd hh)) hv rfl rfl dX6_planNow_54 (fun H locs hI => ?_)
  subst hQ
  exact bw_vret S hr hlocks h (fun q : bw_A1 => (bw_mW cy a q rows asd sm buf bm th od om ow ca bo la pl to rd hh)) hI dX6_planNow_55
set_option maxHeartbeats 4000000 in
set_option maxRecDepth 100000 in
theorem mX6_plan (l : Launch) (G : va_G) (cy : Nat → ClassId) (g : Nat) (a : Nat → Nat) (z : bw_A1) (rows : bw_A1) (asd : bw_A1) (sm : Int32) (buf : bw_A1) (bm : Int32) (th : Int32) (od : bw_A1) (om : Int32) (ow : Int32) (ca : Int32) (bo : Int32) (la : Int32) (pl : Int32) (to : Int32) (rd : bw_A1) (hh : Int64) (p1 : Int32) (p2 : Int32) (r : Int32) (z' : bw_A1) (rows' : bw_A1) (sm' : Int32) (th' : Int32) (h : fX6_plan z rows sm th p1 p2 = some (r, z', rows', sm', th')) : bw_M l yX6_plan cX6_plan 3 (some .int) 2 43 G cy g [.ref (a 0), .int p1, .int p2] (bw_mW cy a z rows asd sm buf bm th od om ow ca bo la pl to rd hh) (some (.int r)) (bw_mW cy a z' rows' asd sm' buf bm th' od om ow ca bo la pl to rd hh) := by
  refine bw_ofW (by decide +kernel) RX6 rfl (Nat.le_of_ble_eq_true rfl) ?_
  intro p e s m below meth c ls S hr hlocks hK hZ hI hl
  have hx := S.1
  have hb := S.2.1
  have hown := S.2.2.2.1
  have hts := S.2.2.2.2
  generalize va_A _ s.heap.size = A at hI hZ ⊢
  generalize hQ : MQ below _ _ s 0 0 A = Q
  have hl : lv_has ls 3 [(0, .ref (a 0)), (1, .int p1), (2, .int p2)] := hl
  have j59 : ∀ (z : bw_A1) (rows : bw_A1) (sm : Int32) (th : Int32) (H : Heap) (locs : List Loc) (ls : Array Slot), jX6_plan_59 z rows sm th = some (r, z', rows', sm', th') → bw_I G A s.heap (bw_mW cy a z rows asd sm buf bm th od om ow ca bo la pl to rd hh) H locs → lv_has ls 3 [(0, .ref (a 0))] → W p l e (bw_rm 2 43) s m [.ref (a 0), .int p1, .int p2].toArray below meth c H locs 0 0 Q (F0 m 59 ls []) := by
    intro z rows sm th H locs ls h hI hl
    unfold jX6_plan_59 at h
    refine lv_aload_n hx hb dX6_plan_59 rfl (lv_at hl 0 rfl) ?_
    refine lv_iconst (v := 3) hx hb dX6_plan_60 rfl ?_
    obtain ⟨r61, th_61, hc, h⟩ := bw_b2_e h
    refine bw_callV S hK hZ hI (mX6_fails l G cy g a z rows asd sm buf bm th od om ow ca bo la pl to rd hh 3 r61 th_61 hc) Y_X6_fails V_X6_fails l_X6_114 ⟨(Nat.le_of_ble_eq_true rfl), (Nat.le_of_ble_eq_true rfl)⟩ (q0 := 0) rfl rfl rfl (ws' := (bw_mW cy a z rows asd sm buf bm th_61 od om ow ca bo la pl to rd hh)) (bw_pS _) (bw_pS' _) rfl rfl hl.1 (rest := []) (st1 := [.int r61]) rfl rfl (Nat.le_of_ble_eq_true rfl) dX6_plan_61 ⟨Nat.le_refl _, Nat.le_refl _⟩ (fun H locs hI => ?_)
    subst hQ
    exact bw_iret (rr := (r, z', rows', sm', th')) S hr hlocks h (fun q : (bw_A1 × bw_A1 × Int32 × Int32) => (bw_mW cy a q.1 q.2.1 asd q.2.2.1 buf bm q.2.2.2 od om ow ca bo la pl to rd hh)) hI rfl dX6_plan_64
  unfold fX6_plan at h
  refine lv_aload_n hx hb dX6_plan_0 rfl (lv_at hl 0 rfl) ?_
  refine lv_iconst (v := 0) hx hb dX6_plan_1 rfl ?_
  refine bw_put S hK hI 0 6 (ws' := (bw_mW cy a z rows asd sm buf bm 0 od om ow ca bo la pl to rd hh)) tyX6 tyX6_ok nmX6 rfl rfl (by decide) i_X6 f_X6_28 rfl rfl rfl rfl (Nat.le_of_ble_eq_true rfl) rfl dX6_plan_2 (fun H locs hI => ?_)
  refine lv_aload_n hx hb dX6_plan_5 rfl (lv_at hl 0 rfl) ?_
  refine lv_iload_n hx hb dX6_plan_6 rfl (lv_at hl 1 rfl) ?_
  obtain ⟨r7, hc, h⟩ := bw_b1_e h
  refine bw_callV S hK hZ hI (mX6_isProject l G cy g a z rows asd sm buf bm 0 od om ow ca bo la pl to rd hh p1 r7 hc) Y_X6_isProject V_X6_isProject l_X6_123 ⟨(Nat.le_of_ble_eq_true rfl), (Nat.le_of_ble_eq_true rfl)⟩ (q0 := 0) rfl rfl rfl (ws' := (bw_mW cy a z rows asd sm buf bm 0 od om ow ca bo la pl to rd hh)) (bw_pS _) (bw_pS' _) rfl rfl hl.1 (rest := []) (st1 := [.int r7]) rfl rfl (Nat.le_of_ble_eq_true rfl) dX6_plan_7 ⟨Nat.le_refl _, Nat.le_refl _⟩ (fun H locs hI => ?_)
  refine lv_if_ne (tgt := 19) hx hb dX6_plan_10 (by decide) (fun c_10 => ?_) (fun c_10 => ?_)
  · rw [if_neg c_10] at h
    refine lv_iload_n hx hb dX6_plan_19 rfl (lv_at hl 2 rfl) ?_
    refine lv_iconst (v := 1) hx hb dX6_plan_20 rfl ?_
    refine lv_bipush (v := 60) hx hb dX6_plan_21 (by decide) ?_
    obtain ⟨r23, hc, h⟩ := bw_b1_e h
    refine bw_callP S hK hZ hI (mX6_in l G cy g p2 1 60 r23 hc) Y_X6_in V_X6_in l_X6_35 ⟨(Nat.le_of_ble_eq_true rfl), (Nat.le_of_ble_eq_true rfl)⟩ (rest := []) (st1 := [.int r23]) rfl hl.1 rfl rfl (Nat.le_of_ble_eq_true rfl) dX6_plan_23 ⟨Nat.le_refl _, Nat.le_refl _⟩ (fun H locs hI => ?_)
    refine lv_if_ne (tgt := 35) hx hb dX6_plan_26 (by decide) (fun c_26 => ?_) (fun c_26 => ?_)
    · rw [if_neg c_26] at h
      refine lv_aload_n hx hb dX6_plan_35 rfl (lv_at hl 0 rfl) ?_
      refine lv_iload_n hx hb dX6_plan_36 rfl (lv_at hl 1 rfl) ?_
      obtain ⟨r37, hc, h⟩ := bw_b1_e h
      refine bw_callV S hK hZ hI (mX6_isOpen l G cy g a z rows asd sm buf bm 0 od om ow ca bo la pl to rd hh p1 r37 hc) Y_X6_isOpen V_X6_isOpen l_X6_43 ⟨(Nat.le_of_ble_eq_true rfl), (Nat.le_of_ble_eq_true rfl)⟩ (q0 := 0) rfl rfl rfl (ws' := (bw_mW cy a z rows asd sm buf bm 0 od om ow ca bo la pl to rd hh)) (bw_pS _) (bw_pS' _) rfl rfl hl.1 (rest := []) (st1 := [.int r37]) rfl rfl (Nat.le_of_ble_eq_true rfl) dX6_plan_37 ⟨Nat.le_refl _, Nat.le_refl _⟩ (fun H locs hI => ?_)
      refine lv_if_eq (tgt := 59) hx hb dX6_plan_40 (by decide) (fun c_40 => ?_) (fun c_40 => ?_)
      · rw [if_pos c_40] at h
        exact j59 z rows sm 0 _ _ _ h hI (lv_sub hl [0] rfl)
      rw [if_neg c_40] at h
      refine lv_aload_n hx hb dX6_plan_43 rfl (lv_at hl 0 rfl) ?_
      refine bw_get S hK hI 0 0 rfl rfl (by decide) i_X6 f_X6_7 rfl dX6_plan_44 ?_
      refine lv_iload_n hx hb dX6_plan_47 rfl (lv_at hl 1 rfl) ?_
      obtain ⟨r48, hc, h⟩ := bw_b1_e h
      refine bw_callP S hK hZ hI (mX6_at l G cy g p1 r48 hc) Y_X6_at V_X6_at l_X6_39 ⟨(Nat.le_of_ble_eq_true rfl), (Nat.le_of_ble_eq_true rfl)⟩ (rest := [.ref (a 1)]) (st1 := [.int r48, .ref (a 1)]) rfl hl.1 rfl rfl (Nat.le_of_ble_eq_true rfl) dX6_plan_48 ⟨Nat.le_refl _, Nat.le_refl _⟩ (fun H locs hI => ?_)
      refine lv_iconst (v := 5) hx hb dX6_plan_51 rfl ?_
      refine lv_iadd hx hb dX6_plan_52 ?_
      obtain ⟨v53, hv, h⟩ := bw_b1_e h
      refine bw_iald hx hb hK hI 1 hv rfl dX6_plan_53 ?_
      refine lv_bipush (v := 8) hx hb dX6_plan_54 (by decide) ?_
      refine lv_icmp_ne (tgt := 65) hx hb dX6_plan_56 (by decide) (fun c_56 => ?_) (fun c_56 => ?_)
      · rw [if_neg c_56] at h
        refine lv_aload_n hx hb dX6_plan_65 rfl (lv_at hl 0 rfl) ?_
        obtain ⟨rows_66, sm_66, hc, h⟩ := bw_b2_e h
        refine bw_callV S hK hZ hI (mX6_save l G cy g a z rows asd sm buf bm 0 od om ow ca bo la pl to rd hh rows_66 sm_66 hc) Y_X6_save V_X6_save l_X6_117 ⟨(Nat.le_of_ble_eq_true rfl), (Nat.le_of_ble_eq_true rfl)⟩ (q0 := 0) rfl rfl rfl (ws' := (bw_mW cy a z rows_66 asd sm_66 buf bm 0 od om ow ca bo la pl to rd hh)) (bw_pS _) (bw_pS' _) rfl rfl hl.1 (rest := []) (st1 := []) rfl rfl (Nat.le_of_ble_eq_true rfl) dX6_plan_66 ⟨Nat.le_refl _, Nat.le_refl _⟩ (fun H locs hI => ?_)
        refine lv_aload_n hx hb dX6_plan_69 rfl (lv_at hl 0 rfl) ?_
        refine lv_iload_n hx hb dX6_plan_70 rfl (lv_at hl 1 rfl) ?_
        refine lv_iload_n hx hb dX6_plan_71 rfl (lv_at hl 2 rfl) ?_
        obtain ⟨z_72, hc, h⟩ := bw_b1_e h
        refine bw_callV S hK hZ hI (mX6_planNow l G cy g a z rows_66 asd sm_66 buf bm 0 od om ow ca bo la pl to rd hh p1 p2 z_72 hc) Y_X6_planNow V_X6_planNow l_X6_126 ⟨(Nat.le_of_ble_eq_true rfl), (Nat.le_of_ble_eq_true rfl)⟩ (q0 := 0) rfl rfl rfl (ws' := (bw_mW cy a z_72 rows_66 asd sm_66 buf bm 0 od om ow ca bo la pl to rd hh)) (bw_pS _) (bw_pS' _) rfl rfl hl.1 (rest := []) (st1 := []) rfl rfl (Nat.le_of_ble_eq_true rfl) dX6_plan_72 ⟨Nat.le_refl _, Nat.le_refl _⟩ (fun H locs hI => ?_)
        refine lv_aload_n hx hb dX6_plan_75 rfl (lv_at hl 0 rfl) ?_
        refine bw_get S hK hI 0 0 rfl rfl (by decide) i_X6 f_X6_7 rfl dX6_plan_76 ?_
        refine lv_iload_n hx hb dX6_plan_79 rfl (lv_at hl 1 rfl) ?_
        obtain ⟨r80, hc, h⟩ := bw_b1_e h
        refine bw_callP S hK hZ hI (mX6_at l G cy g p1 r80 hc) Y_X6_at V_X6_at l_X6_39 ⟨(Nat.le_of_ble_eq_true rfl), (Nat.le_of_ble_eq_true rfl)⟩ (rest := [.ref (a 1)]) (st1 := [.int r80, .ref (a 1)]) rfl hl.1 rfl rfl (Nat.le_of_ble_eq_true rfl) dX6_plan_80 ⟨Nat.le_refl _, Nat.le_refl _⟩ (fun H locs hI => ?_)
        refine lv_iconst (v := 5) hx hb dX6_plan_83 rfl ?_
        refine lv_iadd hx hb dX6_plan_84 ?_
        obtain ⟨v85, hv, h⟩ := bw_b1_e h
        refine bw_iald hx hb hK hI 1 hv rfl dX6_plan_85 ?_
        refine lv_iconst (v := 1) hx hb dX6_plan_86 rfl ?_
        refine lv_isub hx hb dX6_plan_87 ?_
        subst hQ
        exact bw_iret (rr := (r, z', rows', sm', th')) S hr hlocks h (fun q : (bw_A1 × bw_A1 × Int32 × Int32) => (bw_mW cy a q.1 q.2.1 asd q.2.2.1 buf bm q.2.2.2 od om ow ca bo la pl to rd hh)) hI rfl dX6_plan_88
      rw [if_pos c_56] at h
      exact j59 z rows sm 0 _ _ _ h hI (lv_sub hl [0] rfl)
    rw [if_pos c_26] at h
    refine lv_aload_n hx hb dX6_plan_29 rfl (lv_at hl 0 rfl) ?_
    refine lv_iconst (v := 2) hx hb dX6_plan_30 rfl ?_
    obtain ⟨r31, th_31, hc, h⟩ := bw_b2_e h
    refine bw_callV S hK hZ hI (mX6_fails l G cy g a z rows asd sm buf bm 0 od om ow ca bo la pl to rd hh 2 r31 th_31 hc) Y_X6_fails V_X6_fails l_X6_114 ⟨(Nat.le_of_ble_eq_true rfl), (Nat.le_of_ble_eq_true rfl)⟩ (q0 := 0) rfl rfl rfl (ws' := (bw_mW cy a z rows asd sm buf bm th_31 od om ow ca bo la pl to rd hh)) (bw_pS _) (bw_pS' _) rfl rfl hl.1 (rest := []) (st1 := [.int r31]) rfl rfl (Nat.le_of_ble_eq_true rfl) dX6_plan_31 ⟨Nat.le_refl _, Nat.le_refl _⟩ (fun H locs hI => ?_)
    subst hQ
    exact bw_iret (rr := (r, z', rows', sm', th')) S hr hlocks h (fun q : (bw_A1 × bw_A1 × Int32 × Int32) => (bw_mW cy a q.1 q.2.1 asd q.2.2.1 buf bm q.2.2.2 od om ow ca bo la pl to rd hh)) hI rfl dX6_plan_34
  rw [if_pos c_10] at h
  refine lv_aload_n hx hb dX6_plan_13 rfl (lv_at hl 0 rfl) ?_
  refine lv_iconst (v := 1) hx hb dX6_plan_14 rfl ?_
  obtain ⟨r15, th_15, hc, h⟩ := bw_b2_e h
  refine bw_callV S hK hZ hI (mX6_fails l G cy g a z rows asd sm buf bm 0 od om ow ca bo la pl to rd hh 1 r15 th_15 hc) Y_X6_fails V_X6_fails l_X6_114 ⟨(Nat.le_of_ble_eq_true rfl), (Nat.le_of_ble_eq_true rfl)⟩ (q0 := 0) rfl rfl rfl (ws' := (bw_mW cy a z rows asd sm buf bm th_15 od om ow ca bo la pl to rd hh)) (bw_pS _) (bw_pS' _) rfl rfl hl.1 (rest := []) (st1 := [.int r15]) rfl rfl (Nat.le_of_ble_eq_true rfl) dX6_plan_15 ⟨Nat.le_refl _, Nat.le_refl _⟩ (fun H locs hI => ?_)
  subst hQ
  exact bw_iret (rr := (r, z', rows', sm', th')) S hr hlocks h (fun q : (bw_A1 × bw_A1 × Int32 × Int32) => (bw_mW cy a q.1 q.2.1 asd q.2.2.1 buf bm q.2.2.2 od om ow ca bo la pl to rd hh)) hI rfl dX6_plan_18
set_option maxHeartbeats 4000000 in
set_option maxRecDepth 100000 in
theorem mX6_rank (l : Launch) (G : va_G) (cy : Nat → ClassId) (g : Nat) (a : Nat → Nat) (z : bw_A1) (rows : bw_A1) (asd : bw_A1) (sm : Int32) (buf : bw_A1) (bm : Int32) (th : Int32) (od : bw_A1) (om : Int32) (ow : Int32) (ca : Int32) (bo : Int32) (la : Int32) (pl : Int32) (to : Int32) (rd : bw_A1) (hh : Int64) (p1 : Int32) (p2 : Int32) (r : Int32) (z' : bw_A1) (rows' : bw_A1) (sm' : Int32) (th' : Int32) (h : fX6_rank z rows sm th p1 p2 = some (r, z', rows', sm', th')) : bw_M l yX6_rank cX6_rank 4 (some .int) 2 43 G cy g [.ref (a 0), .int p1, .int p2] (bw_mW cy a z rows asd sm buf bm th od om ow ca bo la pl to rd hh) (some (.int r)) (bw_mW cy a z' rows' asd sm' buf bm th' od om ow ca bo la pl to rd hh) := by
  refine bw_ofW (by decide +kernel) RX6 rfl (Nat.le_of_ble_eq_true rfl) ?_
  intro p e s m below meth c ls S hr hlocks hK hZ hI hl
  have hx := S.1
  have hb := S.2.1
  have hown := S.2.2.2.1
  have hts := S.2.2.2.2
  generalize va_A _ s.heap.size = A at hI hZ ⊢
  generalize hQ : MQ below _ _ s 0 0 A = Q
  have hl : lv_has ls 4 [(0, .ref (a 0)), (1, .int p1), (2, .int p2)] := hl
  unfold fX6_rank at h
  refine lv_aload_n hx hb dX6_rank_0 rfl (lv_at hl 0 rfl) ?_
  refine lv_iconst (v := 0) hx hb dX6_rank_1 rfl ?_
  refine bw_put S hK hI 0 6 (ws' := (bw_mW cy a z rows asd sm buf bm 0 od om ow ca bo la pl to rd hh)) tyX6 tyX6_ok nmX6 rfl rfl (by decide) i_X6 f_X6_28 rfl rfl rfl rfl (Nat.le_of_ble_eq_true rfl) rfl dX6_rank_2 (fun H locs hI => ?_)
  refine lv_aload_n hx hb dX6_rank_5 rfl (lv_at hl 0 rfl) ?_
  refine lv_iload_n hx hb dX6_rank_6 rfl (lv_at hl 1 rfl) ?_
  obtain ⟨r7, hc, h⟩ := bw_b1_e h
  refine bw_callV S hK hZ hI (mX6_isProject l G cy g a z rows asd sm buf bm 0 od om ow ca bo la pl to rd hh p1 r7 hc) Y_X6_isProject V_X6_isProject l_X6_123 ⟨(Nat.le_of_ble_eq_true rfl), (Nat.le_of_ble_eq_true rfl)⟩ (q0 := 0) rfl rfl rfl (ws' := (bw_mW cy a z rows asd sm buf bm 0 od om ow ca bo la pl to rd hh)) (bw_pS _) (bw_pS' _) rfl rfl hl.1 (rest := []) (st1 := [.int r7]) rfl rfl (Nat.le_of_ble_eq_true rfl) dX6_rank_7 ⟨Nat.le_refl _, Nat.le_refl _⟩ (fun H locs hI => ?_)
  refine lv_if_ne (tgt := 19) hx hb dX6_rank_10 (by decide) (fun c_10 => ?_) (fun c_10 => ?_)
  · rw [if_neg c_10] at h
    refine lv_iload_n hx hb dX6_rank_19 rfl (lv_at hl 2 rfl) ?_
    obtain ⟨r20, hc, h⟩ := bw_b1_e h
    refine bw_callP S hK hZ hI (mX6_isRank l G cy g p2 r20 hc) Y_X6_isRank V_X6_isRank l_X6_111 ⟨(Nat.le_of_ble_eq_true rfl), (Nat.le_of_ble_eq_true rfl)⟩ (rest := []) (st1 := [.int r20]) rfl hl.1 rfl rfl (Nat.le_of_ble_eq_true rfl) dX6_rank_20 ⟨Nat.le_refl _, Nat.le_refl _⟩ (fun H locs hI => ?_)
    refine lv_if_ne (tgt := 32) hx hb dX6_rank_23 (by decide) (fun c_23 => ?_) (fun c_23 => ?_)
    · rw [if_neg c_23] at h
      refine lv_aload_n hx hb dX6_rank_32 rfl (lv_at hl 0 rfl) ?_
      obtain ⟨rows_33, sm_33, hc, h⟩ := bw_b2_e h
      refine bw_callV S hK hZ hI (mX6_save l G cy g a z rows asd sm buf bm 0 od om ow ca bo la pl to rd hh rows_33 sm_33 hc) Y_X6_save V_X6_save l_X6_117 ⟨(Nat.le_of_ble_eq_true rfl), (Nat.le_of_ble_eq_true rfl)⟩ (q0 := 0) rfl rfl rfl (ws' := (bw_mW cy a z rows_33 asd sm_33 buf bm 0 od om ow ca bo la pl to rd hh)) (bw_pS _) (bw_pS' _) rfl rfl hl.1 (rest := []) (st1 := []) rfl rfl (Nat.le_of_ble_eq_true rfl) dX6_rank_33 ⟨Nat.le_refl _, Nat.le_refl _⟩ (fun H locs hI => ?_)
      refine lv_aload_n hx hb dX6_rank_36 rfl (lv_at hl 0 rfl) ?_
      refine bw_get S hK hI 0 0 rfl rfl (by decide) i_X6 f_X6_7 rfl dX6_rank_37 ?_
      refine lv_iload_n hx hb dX6_rank_40 rfl (lv_at hl 1 rfl) ?_
      obtain ⟨r41, hc, h⟩ := bw_b1_e h
      refine bw_callP S hK hZ hI (mX6_at l G cy g p1 r41 hc) Y_X6_at V_X6_at l_X6_39 ⟨(Nat.le_of_ble_eq_true rfl), (Nat.le_of_ble_eq_true rfl)⟩ (rest := [.ref (a 1)]) (st1 := [.int r41, .ref (a 1)]) rfl hl.1 rfl rfl (Nat.le_of_ble_eq_true rfl) dX6_rank_41 ⟨Nat.le_refl _, Nat.le_refl _⟩ (fun H locs hI => ?_)
      obtain ⟨v44, hv, h⟩ := bw_b1_e h
      refine bw_iald hx hb hK hI 1 hv rfl dX6_rank_44 ?_
      refine lv_istore_n (lv' := [(3, .int v44), (0, .ref (a 0)), (1, .int p1), (2, .int p2)]) hx hb dX6_rank_45 rfl hl (by decide) rfl (fun ls hl => ?_)
      refine lv_aload_n hx hb dX6_rank_46 rfl (lv_at hl 1 rfl) ?_
      refine bw_get S hK hI 0 0 rfl rfl (by decide) i_X6 f_X6_7 rfl dX6_rank_47 ?_
      refine lv_iload_n hx hb dX6_rank_50 rfl (lv_at hl 2 rfl) ?_
      obtain ⟨r51, hc, h⟩ := bw_b1_e h
      refine bw_callP S hK hZ hI (mX6_at l G cy g p1 r51 hc) Y_X6_at V_X6_at l_X6_39 ⟨(Nat.le_of_ble_eq_true rfl), (Nat.le_of_ble_eq_true rfl)⟩ (rest := [.ref (a 1)]) (st1 := [.int r51, .ref (a 1)]) rfl hl.1 rfl rfl (Nat.le_of_ble_eq_true rfl) dX6_rank_51 ⟨Nat.le_refl _, Nat.le_refl _⟩ (fun H locs hI => ?_)
      refine lv_iload_n hx hb dX6_rank_54 rfl (lv_at hl 3 rfl) ?_
      obtain ⟨z_55, hv, h⟩ := bw_b1_e h
      refine bw_iast hx hb hK hI 1 (ws' := (bw_mW cy a z_55 rows_33 asd sm_33 buf bm 0 od om ow ca bo la pl to rd hh)) hv rfl rfl dX6_rank_55 (fun H locs hI => ?_)
      refine lv_iload_n hx hb dX6_rank_56 rfl (lv_at hl 0 rfl) ?_
      subst hQ
      exact bw_iret (rr := (r, z', rows', sm', th')) S hr hlocks h (fun q : (bw_A1 × bw_A1 × Int32 × Int32) => (bw_mW cy a q.1 q.2.1 asd q.2.2.1 buf bm q.2.2.2 od om ow ca bo la pl to rd hh)) hI rfl dX6_rank_57
    rw [if_pos c_23] at h
    refine lv_aload_n hx hb dX6_rank_26 rfl (lv_at hl 0 rfl) ?_
    refine lv_iconst (v := 2) hx hb dX6_rank_27 rfl ?_
    obtain ⟨r28, th_28, hc, h⟩ := bw_b2_e h
    refine bw_callV S hK hZ hI (mX6_fails l G cy g a z rows asd sm buf bm 0 od om ow ca bo la pl to rd hh 2 r28 th_28 hc) Y_X6_fails V_X6_fails l_X6_114 ⟨(Nat.le_of_ble_eq_true rfl), (Nat.le_of_ble_eq_true rfl)⟩ (q0 := 0) rfl rfl rfl (ws' := (bw_mW cy a z rows asd sm buf bm th_28 od om ow ca bo la pl to rd hh)) (bw_pS _) (bw_pS' _) rfl rfl hl.1 (rest := []) (st1 := [.int r28]) rfl rfl (Nat.le_of_ble_eq_true rfl) dX6_rank_28 ⟨Nat.le_refl _, Nat.le_refl _⟩ (fun H locs hI => ?_)
    subst hQ
    exact bw_iret (rr := (r, z', rows', sm', th')) S hr hlocks h (fun q : (bw_A1 × bw_A1 × Int32 × Int32) => (bw_mW cy a q.1 q.2.1 asd q.2.2.1 buf bm q.2.2.2 od om ow ca bo la pl to rd hh)) hI rfl dX6_rank_31
  rw [if_pos c_10] at h
  refine lv_aload_n hx hb dX6_rank_13 rfl (lv_at hl 0 rfl) ?_
  refine lv_iconst (v := 1) hx hb dX6_rank_14 rfl ?_
  obtain ⟨r15, th_15, hc, h⟩ := bw_b2_e h
  refine bw_callV S hK hZ hI (mX6_fails l G cy g a z rows asd sm buf bm 0 od om ow ca bo la pl to rd hh 1 r15 th_15 hc) Y_X6_fails V_X6_fails l_X6_114 ⟨(Nat.le_of_ble_eq_true rfl), (Nat.le_of_ble_eq_true rfl)⟩ (q0 := 0) rfl rfl rfl (ws' := (bw_mW cy a z rows asd sm buf bm th_15 od om ow ca bo la pl to rd hh)) (bw_pS _) (bw_pS' _) rfl rfl hl.1 (rest := []) (st1 := [.int r15]) rfl rfl (Nat.le_of_ble_eq_true rfl) dX6_rank_15 ⟨Nat.le_refl _, Nat.le_refl _⟩ (fun H locs hI => ?_)
  subst hQ
  exact bw_iret (rr := (r, z', rows', sm', th')) S hr hlocks h (fun q : (bw_A1 × bw_A1 × Int32 × Int32) => (bw_mW cy a q.1 q.2.1 asd q.2.2.1 buf bm q.2.2.2 od om ow ca bo la pl to rd hh)) hI rfl dX6_rank_18
set_option maxHeartbeats 4000000 in
set_option maxRecDepth 100000 in
theorem mX6_set (l : Launch) (G : va_G) (cy : Nat → ClassId) (g : Nat) (a : Nat → Nat) (z : bw_A1) (rows : bw_A1) (asd : bw_A1) (sm : Int32) (buf : bw_A1) (bm : Int32) (th : Int32) (od : bw_A1) (om : Int32) (ow : Int32) (ca : Int32) (bo : Int32) (la : Int32) (pl : Int32) (to : Int32) (rd : bw_A1) (hh : Int64) (p1 : Int32) (p2 : Int32) (r : Int32) (z' : bw_A1) (rows' : bw_A1) (sm' : Int32) (th' : Int32) (h : fX6_set z rows sm th p1 p2 = some (r, z', rows', sm', th')) : bw_M l yX6_set cX6_set 4 (some .int) 1 22 G cy g [.ref (a 0), .int p1, .int p2] (bw_mW cy a z rows asd sm buf bm th od om ow ca bo la pl to rd hh) (some (.int r)) (bw_mW cy a z' rows' asd sm' buf bm th' od om ow ca bo la pl to rd hh) := by
  refine bw_ofW (by decide +kernel) RX6 rfl (Nat.le_of_ble_eq_true rfl) ?_
  intro p e s m below meth c ls S hr hlocks hK hZ hI hl
  have hx := S.1
  have hb := S.2.1
  have hown := S.2.2.2.1
  have hts := S.2.2.2.2
  generalize va_A _ s.heap.size = A at hI hZ ⊢
  generalize hQ : MQ below _ _ s 0 0 A = Q
  have hl : lv_has ls 4 [(0, .ref (a 0)), (1, .int p1), (2, .int p2)] := hl
  have j32 : ∀ (z : bw_A1) (rows : bw_A1) (sm : Int32) (th : Int32) (x1 : Int32) (x2 : Int32) (s0 : Int32) (s1 : Int32) (s2 : Int32) (H : Heap) (locs : List Loc) (ls : Array Slot), jX6_set_32 z rows sm th x1 x2 s0 s1 s2 = some (r, z', rows', sm', th') → bw_I G A s.heap (bw_mW cy a z rows asd sm buf bm th od om ow ca bo la pl to rd hh) H locs → lv_has ls 4 [(0, .ref (a 0)), (1, .int x1), (2, .int x2)] → W p l e (bw_rm 1 22) s m [.ref (a 0), .int p1, .int p2].toArray below meth c H locs 0 0 Q (F0 m 32 ls [.int s0, .int s1, .int s2]) := by
    intro z rows sm th x1 x2 s0 s1 s2 H locs ls h hI hl
    unfold jX6_set_32 at h
    obtain ⟨r32, hc, h⟩ := bw_b1_e h
    refine bw_callP S hK hZ hI (mX6_in l G cy g s2 s1 s0 r32 hc) Y_X6_in V_X6_in l_X6_35 ⟨(Nat.le_of_ble_eq_true rfl), (Nat.le_of_ble_eq_true rfl)⟩ (rest := []) (st1 := [.int r32]) rfl hl.1 rfl rfl (Nat.le_of_ble_eq_true rfl) dX6_set_32 ⟨Nat.le_refl _, Nat.le_refl _⟩ (fun H locs hI => ?_)
    refine lv_if_ne (tgt := 44) hx hb dX6_set_35 (by decide) (fun c_35 => ?_) (fun c_35 => ?_)
    · rw [if_neg c_35] at h
      refine lv_aload_n hx hb dX6_set_44 rfl (lv_at hl 0 rfl) ?_
      obtain ⟨rows_45, sm_45, hc, h⟩ := bw_b2_e h
      refine bw_callV S hK hZ hI (mX6_save l G cy g a z rows asd sm buf bm th od om ow ca bo la pl to rd hh rows_45 sm_45 hc) Y_X6_save V_X6_save l_X6_117 ⟨(Nat.le_of_ble_eq_true rfl), (Nat.le_of_ble_eq_true rfl)⟩ (q0 := 0) rfl rfl rfl (ws' := (bw_mW cy a z rows_45 asd sm_45 buf bm th od om ow ca bo la pl to rd hh)) (bw_pS _) (bw_pS' _) rfl rfl hl.1 (rest := []) (st1 := []) rfl rfl (Nat.le_of_ble_eq_true rfl) dX6_set_45 ⟨Nat.le_refl _, Nat.le_refl _⟩ (fun H locs hI => ?_)
      refine lv_aload_n hx hb dX6_set_48 rfl (lv_at hl 0 rfl) ?_
      refine bw_get S hK hI 0 0 rfl rfl (by decide) i_X6 f_X6_7 rfl dX6_set_49 ?_
      refine lv_iconst (v := 3) hx hb dX6_set_52 rfl ?_
      refine lv_iload_n hx hb dX6_set_53 rfl (lv_at hl 1 rfl) ?_
      refine lv_iadd hx hb dX6_set_54 ?_
      obtain ⟨v55, hv, h⟩ := bw_b1_e h
      refine bw_iald hx hb hK hI 1 hv rfl dX6_set_55 ?_
      refine lv_istore_n (lv' := [(3, .int v55), (0, .ref (a 0)), (1, .int x1), (2, .int x2)]) hx hb dX6_set_56 rfl hl (by decide) rfl (fun ls hl => ?_)
      refine lv_aload_n hx hb dX6_set_57 rfl (lv_at hl 1 rfl) ?_
      refine bw_get S hK hI 0 0 rfl rfl (by decide) i_X6 f_X6_7 rfl dX6_set_58 ?_
      refine lv_iconst (v := 3) hx hb dX6_set_61 rfl ?_
      refine lv_iload_n hx hb dX6_set_62 rfl (lv_at hl 2 rfl) ?_
      refine lv_iadd hx hb dX6_set_63 ?_
      refine lv_iload_n hx hb dX6_set_64 rfl (lv_at hl 3 rfl) ?_
      obtain ⟨z_65, hv, h⟩ := bw_b1_e h
      refine bw_iast hx hb hK hI 1 (ws' := (bw_mW cy a z_65 rows_45 asd sm_45 buf bm th od om ow ca bo la pl to rd hh)) hv rfl rfl dX6_set_65 (fun H locs hI => ?_)
      refine lv_iload_n hx hb dX6_set_66 rfl (lv_at hl 0 rfl) ?_
      subst hQ
      exact bw_iret (rr := (r, z', rows', sm', th')) S hr hlocks h (fun q : (bw_A1 × bw_A1 × Int32 × Int32) => (bw_mW cy a q.1 q.2.1 asd q.2.2.1 buf bm q.2.2.2 od om ow ca bo la pl to rd hh)) hI rfl dX6_set_67
    rw [if_pos c_35] at h
    refine lv_aload_n hx hb dX6_set_38 rfl (lv_at hl 0 rfl) ?_
    refine lv_iconst (v := 2) hx hb dX6_set_39 rfl ?_
    obtain ⟨r40, th_40, hc, h⟩ := bw_b2_e h
    refine bw_callV S hK hZ hI (mX6_fails l G cy g a z rows asd sm buf bm th od om ow ca bo la pl to rd hh 2 r40 th_40 hc) Y_X6_fails V_X6_fails l_X6_114 ⟨(Nat.le_of_ble_eq_true rfl), (Nat.le_of_ble_eq_true rfl)⟩ (q0 := 0) rfl rfl rfl (ws' := (bw_mW cy a z rows asd sm buf bm th_40 od om ow ca bo la pl to rd hh)) (bw_pS _) (bw_pS' _) rfl rfl hl.1 (rest := []) (st1 := [.int r40]) rfl rfl (Nat.le_of_ble_eq_true rfl) dX6_set_40 ⟨Nat.le_refl _, Nat.le_refl _⟩ (fun H locs hI => ?_)
    subst hQ
    exact bw_iret (rr := (r, z', rows', sm', th')) S hr hlocks h (fun q : (bw_A1 × bw_A1 × Int32 × Int32) => (bw_mW cy a q.1 q.2.1 asd q.2.2.1 buf bm q.2.2.2 od om ow ca bo la pl to rd hh)) hI rfl dX6_set_43
  unfold fX6_set at h
  refine lv_aload_n hx hb dX6_set_0 rfl (lv_at hl 0 rfl) ?_
  refine lv_iconst (v := 0) hx hb dX6_set_1 rfl ?_
  refine bw_put S hK hI 0 6 (ws' := (bw_mW cy a z rows asd sm buf bm 0 od om ow ca bo la pl to rd hh)) tyX6 tyX6_ok nmX6 rfl rfl (by decide) i_X6 f_X6_28 rfl rfl rfl rfl (Nat.le_of_ble_eq_true rfl) rfl dX6_set_2 (fun H locs hI => ?_)
  refine lv_iload_n hx hb dX6_set_5 rfl (lv_at hl 1 rfl) ?_
  refine lv_iconst (v := 0) hx hb dX6_set_6 rfl ?_
  refine lv_iconst (v := 2) hx hb dX6_set_7 rfl ?_
  obtain ⟨r8, hc, h⟩ := bw_b1_e h
  refine bw_callP S hK hZ hI (mX6_in l G cy g p1 0 2 r8 hc) Y_X6_in V_X6_in l_X6_35 ⟨(Nat.le_of_ble_eq_true rfl), (Nat.le_of_ble_eq_true rfl)⟩ (rest := []) (st1 := [.int r8]) rfl hl.1 rfl rfl (Nat.le_of_ble_eq_true rfl) dX6_set_8 ⟨Nat.le_refl _, Nat.le_refl _⟩ (fun H locs hI => ?_)
  refine lv_if_ne (tgt := 20) hx hb dX6_set_11 (by decide) (fun c_11 => ?_) (fun c_11 => ?_)
  · rw [if_neg c_11] at h
    refine lv_iload_n hx hb dX6_set_20 rfl (lv_at hl 2 rfl) ?_
    refine lv_iconst (v := 0) hx hb dX6_set_21 rfl ?_
    refine lv_iload_n hx hb dX6_set_22 rfl (lv_at hl 1 rfl) ?_
    refine lv_if_ne (tgt := 30) hx hb dX6_set_23 (by decide) (fun c_23 => ?_) (fun c_23 => ?_)
    · rw [if_neg c_23] at h
      refine lv_bipush (v := 100) hx hb dX6_set_30 (by decide) ?_
      exact j32 z rows sm 0 p1 p2 100 0 p2 _ _ _ h hI (lv_sub hl [0,1,2] rfl)
    rw [if_pos c_23] at h
    refine lv_iconst (v := 2) hx hb dX6_set_26 rfl ?_
    refine lv_goto (tgt := 32) hx hb dX6_set_27 (by decide) ?_
    exact j32 z rows sm 0 p1 p2 2 0 p2 _ _ _ h hI (lv_sub hl [0,1,2] rfl)
  rw [if_pos c_11] at h
  refine lv_aload_n hx hb dX6_set_14 rfl (lv_at hl 0 rfl) ?_
  refine lv_iconst (v := 1) hx hb dX6_set_15 rfl ?_
  obtain ⟨r16, th_16, hc, h⟩ := bw_b2_e h
  refine bw_callV S hK hZ hI (mX6_fails l G cy g a z rows asd sm buf bm 0 od om ow ca bo la pl to rd hh 1 r16 th_16 hc) Y_X6_fails V_X6_fails l_X6_114 ⟨(Nat.le_of_ble_eq_true rfl), (Nat.le_of_ble_eq_true rfl)⟩ (q0 := 0) rfl rfl rfl (ws' := (bw_mW cy a z rows asd sm buf bm th_16 od om ow ca bo la pl to rd hh)) (bw_pS _) (bw_pS' _) rfl rfl hl.1 (rest := []) (st1 := [.int r16]) rfl rfl (Nat.le_of_ble_eq_true rfl) dX6_set_16 ⟨Nat.le_refl _, Nat.le_refl _⟩ (fun H locs hI => ?_)
  subst hQ
  exact bw_iret (rr := (r, z', rows', sm', th')) S hr hlocks h (fun q : (bw_A1 × bw_A1 × Int32 × Int32) => (bw_mW cy a q.1 q.2.1 asd q.2.2.1 buf bm q.2.2.2 od om ow ca bo la pl to rd hh)) hI rfl dX6_set_19
set_option maxHeartbeats 4000000 in
set_option maxRecDepth 100000 in
theorem mX6_done (l : Launch) (G : va_G) (cy : Nat → ClassId) (g : Nat) (a : Nat → Nat) (z : bw_A1) (rows : bw_A1) (asd : bw_A1) (sm : Int32) (buf : bw_A1) (bm : Int32) (th : Int32) (od : bw_A1) (om : Int32) (ow : Int32) (ca : Int32) (bo : Int32) (la : Int32) (pl : Int32) (to : Int32) (rd : bw_A1) (hh : Int64) (p1 : Int32) (p2 : Int32) (r : Int32) (z' : bw_A1) (rows' : bw_A1) (sm' : Int32) (th' : Int32) (od' : bw_A1) (om' : Int32) (ow' : Int32) (ca' : Int32) (bo' : Int32) (la' : Int32) (h : fX6_done z rows sm th od om ow ca bo la p1 p2 = some (r, z', rows', sm', th', od', om', ow', ca', bo', la')) : bw_M l yX6_done cX6_done 3 (some .int) 8 184 G cy g [.ref (a 0), .int p1, .int p2] (bw_mW cy a z rows asd sm buf bm th od om ow ca bo la pl to rd hh) (some (.int r)) (bw_mW cy a z' rows' asd sm' buf bm th' od' om' ow' ca' bo' la' pl to rd hh) := by
  refine bw_ofW (by decide +kernel) RX6 rfl (Nat.le_of_ble_eq_true rfl) ?_
  intro p e s m below meth c ls S hr hlocks hK hZ hI hl
  have hx := S.1
  have hb := S.2.1
  have hown := S.2.2.2.1
  have hts := S.2.2.2.2
  generalize va_A _ s.heap.size = A at hI hZ ⊢
  generalize hQ : MQ below _ _ s 0 0 A = Q
  have hl : lv_has ls 3 [(0, .ref (a 0)), (1, .int p1), (2, .int p2)] := hl
  unfold fX6_done at h
  refine lv_aload_n hx hb dX6_done_0 rfl (lv_at hl 0 rfl) ?_
  refine lv_iconst (v := 0) hx hb dX6_done_1 rfl ?_
  refine bw_put S hK hI 0 6 (ws' := (bw_mW cy a z rows asd sm buf bm 0 od om ow ca bo la pl to rd hh)) tyX6 tyX6_ok nmX6 rfl rfl (by decide) i_X6 f_X6_28 rfl rfl rfl rfl (Nat.le_of_ble_eq_true rfl) rfl dX6_done_2 (fun H locs hI => ?_)
  refine lv_aload_n hx hb dX6_done_5 rfl (lv_at hl 0 rfl) ?_
  refine lv_iload_n hx hb dX6_done_6 rfl (lv_at hl 1 rfl) ?_
  obtain ⟨r7, hc, h⟩ := bw_b1_e h
  refine bw_callV S hK hZ hI (mX6_isProject l G cy g a z rows asd sm buf bm 0 od om ow ca bo la pl to rd hh p1 r7 hc) Y_X6_isProject V_X6_isProject l_X6_123 ⟨(Nat.le_of_ble_eq_true rfl), (Nat.le_of_ble_eq_true rfl)⟩ (q0 := 0) rfl rfl rfl (ws' := (bw_mW cy a z rows asd sm buf bm 0 od om ow ca bo la pl to rd hh)) (bw_pS _) (bw_pS' _) rfl rfl hl.1 (rest := []) (st1 := [.int r7]) rfl rfl (Nat.le_of_ble_eq_true rfl) dX6_done_7 ⟨Nat.le_refl _, Nat.le_refl _⟩ (fun H locs hI => ?_)
  refine lv_if_ne (tgt := 19) hx hb dX6_done_10 (by decide) (fun c_10 => ?_) (fun c_10 => ?_)
  · rw [if_neg c_10] at h
    refine lv_iload_n hx hb dX6_done_19 rfl (lv_at hl 2 rfl) ?_
    refine lv_iconst (v := 0) hx hb dX6_done_20 rfl ?_
    refine lv_sipush (v := 300) hx hb dX6_done_21 (by decide) ?_
    obtain ⟨r24, hc, h⟩ := bw_b1_e h
    refine bw_callP S hK hZ hI (mX6_in l G cy g p2 0 300 r24 hc) Y_X6_in V_X6_in l_X6_35 ⟨(Nat.le_of_ble_eq_true rfl), (Nat.le_of_ble_eq_true rfl)⟩ (rest := []) (st1 := [.int r24]) rfl hl.1 rfl rfl (Nat.le_of_ble_eq_true rfl) dX6_done_24 ⟨Nat.le_refl _, Nat.le_refl _⟩ (fun H locs hI => ?_)
    refine lv_if_ne (tgt := 36) hx hb dX6_done_27 (by decide) (fun c_27 => ?_) (fun c_27 => ?_)
    · rw [if_neg c_27] at h
      refine lv_aload_n hx hb dX6_done_36 rfl (lv_at hl 0 rfl) ?_
      refine lv_iload_n hx hb dX6_done_37 rfl (lv_at hl 1 rfl) ?_
      obtain ⟨r38, hc, h⟩ := bw_b1_e h
      refine bw_callV S hK hZ hI (mX6_mayDo l G cy g a z rows asd sm buf bm 0 od om ow ca bo la pl to rd hh p1 r38 hc) Y_X6_mayDo V_X6_mayDo l_X6_129 ⟨(Nat.le_of_ble_eq_true rfl), (Nat.le_of_ble_eq_true rfl)⟩ (q0 := 0) rfl rfl rfl (ws' := (bw_mW cy a z rows asd sm buf bm 0 od om ow ca bo la pl to rd hh)) (bw_pS _) (bw_pS' _) rfl rfl hl.1 (rest := []) (st1 := [.int r38]) rfl rfl (Nat.le_of_ble_eq_true rfl) dX6_done_38 ⟨Nat.le_refl _, Nat.le_refl _⟩ (fun H locs hI => ?_)
      refine lv_if_ne (tgt := 50) hx hb dX6_done_41 (by decide) (fun c_41 => ?_) (fun c_41 => ?_)
      · rw [if_neg c_41] at h
        refine lv_aload_n hx hb dX6_done_50 rfl (lv_at hl 0 rfl) ?_
        obtain ⟨rows_51, sm_51, hc, h⟩ := bw_b2_e h
        refine bw_callV S hK hZ hI (mX6_save l G cy g a z rows asd sm buf bm 0 od om ow ca bo la pl to rd hh rows_51 sm_51 hc) Y_X6_save V_X6_save l_X6_117 ⟨(Nat.le_of_ble_eq_true rfl), (Nat.le_of_ble_eq_true rfl)⟩ (q0 := 0) rfl rfl rfl (ws' := (bw_mW cy a z rows_51 asd sm_51 buf bm 0 od om ow ca bo la pl to rd hh)) (bw_pS _) (bw_pS' _) rfl rfl hl.1 (rest := []) (st1 := []) rfl rfl (Nat.le_of_ble_eq_true rfl) dX6_done_51 ⟨Nat.le_refl _, Nat.le_refl _⟩ (fun H locs hI => ?_)
        refine lv_aload_n hx hb dX6_done_54 rfl (lv_at hl 0 rfl) ?_
        refine lv_iload_n hx hb dX6_done_55 rfl (lv_at hl 1 rfl) ?_
        refine lv_iload_n hx hb dX6_done_56 rfl (lv_at hl 2 rfl) ?_
        obtain ⟨z_57, od_57, om_57, ow_57, ca_57, bo_57, la_57, hc, h⟩ := bw_b7_e h
        refine bw_callV S hK hZ hI (mX6_doNow l G cy g a z rows_51 asd sm_51 buf bm 0 od om ow ca bo la pl to rd hh p1 p2 z_57 od_57 om_57 ow_57 ca_57 bo_57 la_57 hc) Y_X6_doNow V_X6_doNow l_X6_132 ⟨(Nat.le_of_ble_eq_true rfl), (Nat.le_of_ble_eq_true rfl)⟩ (q0 := 0) rfl rfl rfl (ws' := (bw_mW cy a z_57 rows_51 asd sm_51 buf bm 0 od_57 om_57 ow_57 ca_57 bo_57 la_57 pl to rd hh)) (bw_pS _) (bw_pS' _) rfl rfl hl.1 (rest := []) (st1 := []) rfl rfl (Nat.le_of_ble_eq_true rfl) dX6_done_57 ⟨Nat.le_refl _, Nat.le_refl _⟩ (fun H locs hI => ?_)
        refine lv_aload_n hx hb dX6_done_60 rfl (lv_at hl 0 rfl) ?_
        refine bw_get S hK hI 0 12 rfl rfl (by decide) i_X6 f_X6_93 rfl dX6_done_61 ?_
        subst hQ
        exact bw_iret (rr := (r, z', rows', sm', th', od', om', ow', ca', bo', la')) S hr hlocks h (fun q : (bw_A1 × bw_A1 × Int32 × Int32 × bw_A1 × Int32 × Int32 × Int32 × Int32 × Int32) => (bw_mW cy a q.1 q.2.1 asd q.2.2.1 buf bm q.2.2.2.1 q.2.2.2.2.1 q.2.2.2.2.2.1 q.2.2.2.2.2.2.1 q.2.2.2.2.2.2.2.1 q.2.2.2.2.2.2.2.2.1 q.2.2.2.2.2.2.2.2.2 pl to rd hh)) hI rfl dX6_done_64
      rw [if_pos c_41] at h
      refine lv_aload_n hx hb dX6_done_44 rfl (lv_at hl 0 rfl) ?_
      refine lv_iconst (v := 3) hx hb dX6_done_45 rfl ?_
      obtain ⟨r46, th_46, hc, h⟩ := bw_b2_e h
      refine bw_callV S hK hZ hI (mX6_fails l G cy g a z rows asd sm buf bm 0 od om ow ca bo la pl to rd hh 3 r46 th_46 hc) Y_X6_fails V_X6_fails l_X6_114 ⟨(Nat.le_of_ble_eq_true rfl), (Nat.le_of_ble_eq_true rfl)⟩ (q0 := 0) rfl rfl rfl (ws' := (bw_mW cy a z rows asd sm buf bm th_46 od om ow ca bo la pl to rd hh)) (bw_pS _) (bw_pS' _) rfl rfl hl.1 (rest := []) (st1 := [.int r46]) rfl rfl (Nat.le_of_ble_eq_true rfl) dX6_done_46 ⟨Nat.le_refl _, Nat.le_refl _⟩ (fun H locs hI => ?_)
      subst hQ
      exact bw_iret (rr := (r, z', rows', sm', th', od', om', ow', ca', bo', la')) S hr hlocks h (fun q : (bw_A1 × bw_A1 × Int32 × Int32 × bw_A1 × Int32 × Int32 × Int32 × Int32 × Int32) => (bw_mW cy a q.1 q.2.1 asd q.2.2.1 buf bm q.2.2.2.1 q.2.2.2.2.1 q.2.2.2.2.2.1 q.2.2.2.2.2.2.1 q.2.2.2.2.2.2.2.1 q.2.2.2.2.2.2.2.2.1 q.2.2.2.2.2.2.2.2.2 pl to rd hh)) hI rfl dX6_done_49
    rw [if_pos c_27] at h
    refine lv_aload_n hx hb dX6_done_30 rfl (lv_at hl 0 rfl) ?_
    refine lv_iconst (v := 2) hx hb dX6_done_31 rfl ?_
    obtain ⟨r32, th_32, hc, h⟩ := bw_b2_e h
    refine bw_callV S hK hZ hI (mX6_fails l G cy g a z rows asd sm buf bm 0 od om ow ca bo la pl to rd hh 2 r32 th_32 hc) Y_X6_fails V_X6_fails l_X6_114 ⟨(Nat.le_of_ble_eq_true rfl), (Nat.le_of_ble_eq_true rfl)⟩ (q0 := 0) rfl rfl rfl (ws' := (bw_mW cy a z rows asd sm buf bm th_32 od om ow ca bo la pl to rd hh)) (bw_pS _) (bw_pS' _) rfl rfl hl.1 (rest := []) (st1 := [.int r32]) rfl rfl (Nat.le_of_ble_eq_true rfl) dX6_done_32 ⟨Nat.le_refl _, Nat.le_refl _⟩ (fun H locs hI => ?_)
    subst hQ
    exact bw_iret (rr := (r, z', rows', sm', th', od', om', ow', ca', bo', la')) S hr hlocks h (fun q : (bw_A1 × bw_A1 × Int32 × Int32 × bw_A1 × Int32 × Int32 × Int32 × Int32 × Int32) => (bw_mW cy a q.1 q.2.1 asd q.2.2.1 buf bm q.2.2.2.1 q.2.2.2.2.1 q.2.2.2.2.2.1 q.2.2.2.2.2.2.1 q.2.2.2.2.2.2.2.1 q.2.2.2.2.2.2.2.2.1 q.2.2.2.2.2.2.2.2.2 pl to rd hh)) hI rfl dX6_done_35
  rw [if_pos c_10] at h
  refine lv_aload_n hx hb dX6_done_13 rfl (lv_at hl 0 rfl) ?_
  refine lv_iconst (v := 1) hx hb dX6_done_14 rfl ?_
  obtain ⟨r15, th_15, hc, h⟩ := bw_b2_e h
  refine bw_callV S hK hZ hI (mX6_fails l G cy g a z rows asd sm buf bm 0 od om ow ca bo la pl to rd hh 1 r15 th_15 hc) Y_X6_fails V_X6_fails l_X6_114 ⟨(Nat.le_of_ble_eq_true rfl), (Nat.le_of_ble_eq_true rfl)⟩ (q0 := 0) rfl rfl rfl (ws' := (bw_mW cy a z rows asd sm buf bm th_15 od om ow ca bo la pl to rd hh)) (bw_pS _) (bw_pS' _) rfl rfl hl.1 (rest := []) (st1 := [.int r15]) rfl rfl (Nat.le_of_ble_eq_true rfl) dX6_done_15 ⟨Nat.le_refl _, Nat.le_refl _⟩ (fun H locs hI => ?_)
  subst hQ
  exact bw_iret (rr := (r, z', rows', sm', th', od', om', ow', ca', bo', la')) S hr hlocks h (fun q : (bw_A1 × bw_A1 × Int32 × Int32 × bw_A1 × Int32 × Int32 × Int32 × Int32 × Int32) => (bw_mW cy a q.1 q.2.1 asd q.2.2.1 buf bm q.2.2.2.1 q.2.2.2.2.1 q.2.2.2.2.2.1 q.2.2.2.2.2.2.1 q.2.2.2.2.2.2.2.1 q.2.2.2.2.2.2.2.2.1 q.2.2.2.2.2.2.2.2.2 pl to rd hh)) hI rfl dX6_done_18
set_option maxHeartbeats 4000000 in
set_option maxRecDepth 100000 in
theorem mX6_lend (l : Launch) (G : va_G) (cy : Nat → ClassId) (g : Nat) (a : Nat → Nat) (z : bw_A1) (rows : bw_A1) (asd : bw_A1) (sm : Int32) (buf : bw_A1) (bm : Int32) (th : Int32) (od : bw_A1) (om : Int32) (ow : Int32) (ca : Int32) (bo : Int32) (la : Int32) (pl : Int32) (to : Int32) (rd : bw_A1) (hh : Int64) (p1 : Int32) (p2 : Int32) (p3 : Int32) (r : Int32) (z' : bw_A1) (rows' : bw_A1) (sm' : Int32) (th' : Int32) (h : fX6_lend z rows sm th p1 p2 p3 = some (r, z', rows', sm', th')) : bw_M l yX6_lend cX6_lend 4 (some .int) 3 67 G cy g [.ref (a 0), .int p1, .int p2, .int p3] (bw_mW cy a z rows asd sm buf bm th od om ow ca bo la pl to rd hh) (some (.int r)) (bw_mW cy a z' rows' asd sm' buf bm th' od om ow ca bo la pl to rd hh) := by
  refine bw_ofW (by decide +kernel) RX6 rfl (Nat.le_of_ble_eq_true rfl) ?_
  intro p e s m below meth c ls S hr hlocks hK hZ hI hl
  have hx := S.1
  have hb := S.2.1
  have hown := S.2.2.2.1
  have hts := S.2.2.2.2
  generalize va_A _ s.heap.size = A at hI hZ ⊢
  generalize hQ : MQ below _ _ s 0 0 A = Q
  have hl : lv_has ls 4 [(0, .ref (a 0)), (1, .int p1), (2, .int p2), (3, .int p3)] := hl
  have j21 : ∀ (z : bw_A1) (rows : bw_A1) (sm : Int32) (th : Int32) (H : Heap) (locs : List Loc) (ls : Array Slot), jX6_lend_21 z rows sm th = some (r, z', rows', sm', th') → bw_I G A s.heap (bw_mW cy a z rows asd sm buf bm th od om ow ca bo la pl to rd hh) H locs → lv_has ls 4 [(0, .ref (a 0))] → W p l e (bw_rm 3 67) s m [.ref (a 0), .int p1, .int p2, .int p3].toArray below meth c H locs 0 0 Q (F0 m 21 ls []) := by
    intro z rows sm th H locs ls h hI hl
    unfold jX6_lend_21 at h
    refine lv_aload_n hx hb dX6_lend_21 rfl (lv_at hl 0 rfl) ?_
    refine lv_iconst (v := 1) hx hb dX6_lend_22 rfl ?_
    obtain ⟨r23, th_23, hc, h⟩ := bw_b2_e h
    refine bw_callV S hK hZ hI (mX6_fails l G cy g a z rows asd sm buf bm th od om ow ca bo la pl to rd hh 1 r23 th_23 hc) Y_X6_fails V_X6_fails l_X6_114 ⟨(Nat.le_of_ble_eq_true rfl), (Nat.le_of_ble_eq_true rfl)⟩ (q0 := 0) rfl rfl rfl (ws' := (bw_mW cy a z rows asd sm buf bm th_23 od om ow ca bo la pl to rd hh)) (bw_pS _) (bw_pS' _) rfl rfl hl.1 (rest := []) (st1 := [.int r23]) rfl rfl (Nat.le_of_ble_eq_true rfl) dX6_lend_23 ⟨Nat.le_refl _, Nat.le_refl _⟩ (fun H locs hI => ?_)
    subst hQ
    exact bw_iret (rr := (r, z', rows', sm', th')) S hr hlocks h (fun q : (bw_A1 × bw_A1 × Int32 × Int32) => (bw_mW cy a q.1 q.2.1 asd q.2.2.1 buf bm q.2.2.2 od om ow ca bo la pl to rd hh)) hI rfl dX6_lend_26
  have j42 : ∀ (z : bw_A1) (rows : bw_A1) (sm : Int32) (th : Int32) (H : Heap) (locs : List Loc) (ls : Array Slot), jX6_lend_42 z rows sm th = some (r, z', rows', sm', th') → bw_I G A s.heap (bw_mW cy a z rows asd sm buf bm th od om ow ca bo la pl to rd hh) H locs → lv_has ls 4 [(0, .ref (a 0))] → W p l e (bw_rm 3 67) s m [.ref (a 0), .int p1, .int p2, .int p3].toArray below meth c H locs 0 0 Q (F0 m 42 ls []) := by
    intro z rows sm th H locs ls h hI hl
    unfold jX6_lend_42 at h
    refine lv_aload_n hx hb dX6_lend_42 rfl (lv_at hl 0 rfl) ?_
    refine lv_iconst (v := 2) hx hb dX6_lend_43 rfl ?_
    obtain ⟨r44, th_44, hc, h⟩ := bw_b2_e h
    refine bw_callV S hK hZ hI (mX6_fails l G cy g a z rows asd sm buf bm th od om ow ca bo la pl to rd hh 2 r44 th_44 hc) Y_X6_fails V_X6_fails l_X6_114 ⟨(Nat.le_of_ble_eq_true rfl), (Nat.le_of_ble_eq_true rfl)⟩ (q0 := 0) rfl rfl rfl (ws' := (bw_mW cy a z rows asd sm buf bm th_44 od om ow ca bo la pl to rd hh)) (bw_pS _) (bw_pS' _) rfl rfl hl.1 (rest := []) (st1 := [.int r44]) rfl rfl (Nat.le_of_ble_eq_true rfl) dX6_lend_44 ⟨Nat.le_refl _, Nat.le_refl _⟩ (fun H locs hI => ?_)
    subst hQ
    exact bw_iret (rr := (r, z', rows', sm', th')) S hr hlocks h (fun q : (bw_A1 × bw_A1 × Int32 × Int32) => (bw_mW cy a q.1 q.2.1 asd q.2.2.1 buf bm q.2.2.2 od om ow ca bo la pl to rd hh)) hI rfl dX6_lend_47
  have j79 : ∀ (z : bw_A1) (rows : bw_A1) (sm : Int32) (th : Int32) (H : Heap) (locs : List Loc) (ls : Array Slot), jX6_lend_79 z rows sm th = some (r, z', rows', sm', th') → bw_I G A s.heap (bw_mW cy a z rows asd sm buf bm th od om ow ca bo la pl to rd hh) H locs → lv_has ls 4 [(0, .ref (a 0))] → W p l e (bw_rm 3 67) s m [.ref (a 0), .int p1, .int p2, .int p3].toArray below meth c H locs 0 0 Q (F0 m 79 ls []) := by
    intro z rows sm th H locs ls h hI hl
    unfold jX6_lend_79 at h
    refine lv_aload_n hx hb dX6_lend_79 rfl (lv_at hl 0 rfl) ?_
    refine lv_iconst (v := 3) hx hb dX6_lend_80 rfl ?_
    obtain ⟨r81, th_81, hc, h⟩ := bw_b2_e h
    refine bw_callV S hK hZ hI (mX6_fails l G cy g a z rows asd sm buf bm th od om ow ca bo la pl to rd hh 3 r81 th_81 hc) Y_X6_fails V_X6_fails l_X6_114 ⟨(Nat.le_of_ble_eq_true rfl), (Nat.le_of_ble_eq_true rfl)⟩ (q0 := 0) rfl rfl rfl (ws' := (bw_mW cy a z rows asd sm buf bm th_81 od om ow ca bo la pl to rd hh)) (bw_pS _) (bw_pS' _) rfl rfl hl.1 (rest := []) (st1 := [.int r81]) rfl rfl (Nat.le_of_ble_eq_true rfl) dX6_lend_81 ⟨Nat.le_refl _, Nat.le_refl _⟩ (fun H locs hI => ?_)
    subst hQ
    exact bw_iret (rr := (r, z', rows', sm', th')) S hr hlocks h (fun q : (bw_A1 × bw_A1 × Int32 × Int32) => (bw_mW cy a q.1 q.2.1 asd q.2.2.1 buf bm q.2.2.2 od om ow ca bo la pl to rd hh)) hI rfl dX6_lend_84
  unfold fX6_lend at h
  refine lv_aload_n hx hb dX6_lend_0 rfl (lv_at hl 0 rfl) ?_
  refine lv_iconst (v := 0) hx hb dX6_lend_1 rfl ?_
  refine bw_put S hK hI 0 6 (ws' := (bw_mW cy a z rows asd sm buf bm 0 od om ow ca bo la pl to rd hh)) tyX6 tyX6_ok nmX6 rfl rfl (by decide) i_X6 f_X6_28 rfl rfl rfl rfl (Nat.le_of_ble_eq_true rfl) rfl dX6_lend_2 (fun H locs hI => ?_)
  refine lv_aload_n hx hb dX6_lend_5 rfl (lv_at hl 0 rfl) ?_
  refine lv_iload_n hx hb dX6_lend_6 rfl (lv_at hl 1 rfl) ?_
  obtain ⟨r7, hc, h⟩ := bw_b1_e h
  refine bw_callV S hK hZ hI (mX6_isProject l G cy g a z rows asd sm buf bm 0 od om ow ca bo la pl to rd hh p1 r7 hc) Y_X6_isProject V_X6_isProject l_X6_123 ⟨(Nat.le_of_ble_eq_true rfl), (Nat.le_of_ble_eq_true rfl)⟩ (q0 := 0) rfl rfl rfl (ws' := (bw_mW cy a z rows asd sm buf bm 0 od om ow ca bo la pl to rd hh)) (bw_pS _) (bw_pS' _) rfl rfl hl.1 (rest := []) (st1 := [.int r7]) rfl rfl (Nat.le_of_ble_eq_true rfl) dX6_lend_7 ⟨Nat.le_refl _, Nat.le_refl _⟩ (fun H locs hI => ?_)
  refine lv_if_eq (tgt := 21) hx hb dX6_lend_10 (by decide) (fun c_10 => ?_) (fun c_10 => ?_)
  · rw [if_pos c_10] at h
    exact j21 z rows sm 0 _ _ _ h hI (lv_sub hl [0] rfl)
  rw [if_neg c_10] at h
  refine lv_aload_n hx hb dX6_lend_13 rfl (lv_at hl 0 rfl) ?_
  refine lv_iload_n hx hb dX6_lend_14 rfl (lv_at hl 2 rfl) ?_
  obtain ⟨r15, hc, h⟩ := bw_b1_e h
  refine bw_callV S hK hZ hI (mX6_isProject l G cy g a z rows asd sm buf bm 0 od om ow ca bo la pl to rd hh p2 r15 hc) Y_X6_isProject V_X6_isProject l_X6_123 ⟨(Nat.le_of_ble_eq_true rfl), (Nat.le_of_ble_eq_true rfl)⟩ (q0 := 0) rfl rfl rfl (ws' := (bw_mW cy a z rows asd sm buf bm 0 od om ow ca bo la pl to rd hh)) (bw_pS _) (bw_pS' _) rfl rfl hl.1 (rest := []) (st1 := [.int r15]) rfl rfl (Nat.le_of_ble_eq_true rfl) dX6_lend_15 ⟨Nat.le_refl _, Nat.le_refl _⟩ (fun H locs hI => ?_)
  refine lv_if_ne (tgt := 27) hx hb dX6_lend_18 (by decide) (fun c_18 => ?_) (fun c_18 => ?_)
  · rw [if_neg c_18] at h
    refine lv_iload_n hx hb dX6_lend_27 rfl (lv_at hl 1 rfl) ?_
    refine lv_iload_n hx hb dX6_lend_28 rfl (lv_at hl 2 rfl) ?_
    refine lv_icmp_eq (tgt := 42) hx hb dX6_lend_29 (by decide) (fun c_29 => ?_) (fun c_29 => ?_)
    · rw [if_pos c_29] at h
      exact j42 z rows sm 0 _ _ _ h hI (lv_sub hl [0] rfl)
    rw [if_neg c_29] at h
    refine lv_iload_n hx hb dX6_lend_32 rfl (lv_at hl 3 rfl) ?_
    refine lv_iconst (v := 1) hx hb dX6_lend_33 rfl ?_
    refine lv_bipush (v := 99) hx hb dX6_lend_34 (by decide) ?_
    obtain ⟨r36, hc, h⟩ := bw_b1_e h
    refine bw_callP S hK hZ hI (mX6_in l G cy g p3 1 99 r36 hc) Y_X6_in V_X6_in l_X6_35 ⟨(Nat.le_of_ble_eq_true rfl), (Nat.le_of_ble_eq_true rfl)⟩ (rest := []) (st1 := [.int r36]) rfl hl.1 rfl rfl (Nat.le_of_ble_eq_true rfl) dX6_lend_36 ⟨Nat.le_refl _, Nat.le_refl _⟩ (fun H locs hI => ?_)
    refine lv_if_ne (tgt := 48) hx hb dX6_lend_39 (by decide) (fun c_39 => ?_) (fun c_39 => ?_)
    · rw [if_neg c_39] at h
      refine lv_aload_n hx hb dX6_lend_48 rfl (lv_at hl 0 rfl) ?_
      refine lv_iload_n hx hb dX6_lend_49 rfl (lv_at hl 1 rfl) ?_
      obtain ⟨r50, hc, h⟩ := bw_b1_e h
      refine bw_callV S hK hZ hI (mX6_isOpen l G cy g a z rows asd sm buf bm 0 od om ow ca bo la pl to rd hh p1 r50 hc) Y_X6_isOpen V_X6_isOpen l_X6_43 ⟨(Nat.le_of_ble_eq_true rfl), (Nat.le_of_ble_eq_true rfl)⟩ (q0 := 0) rfl rfl rfl (ws' := (bw_mW cy a z rows asd sm buf bm 0 od om ow ca bo la pl to rd hh)) (bw_pS _) (bw_pS' _) rfl rfl hl.1 (rest := []) (st1 := [.int r50]) rfl rfl (Nat.le_of_ble_eq_true rfl) dX6_lend_50 ⟨Nat.le_refl _, Nat.le_refl _⟩ (fun H locs hI => ?_)
      refine lv_if_eq (tgt := 79) hx hb dX6_lend_53 (by decide) (fun c_53 => ?_) (fun c_53 => ?_)
      · rw [if_pos c_53] at h
        exact j79 z rows sm 0 _ _ _ h hI (lv_sub hl [0] rfl)
      rw [if_neg c_53] at h
      refine lv_aload_n hx hb dX6_lend_56 rfl (lv_at hl 0 rfl) ?_
      refine lv_iload_n hx hb dX6_lend_57 rfl (lv_at hl 2 rfl) ?_
      obtain ⟨r58, hc, h⟩ := bw_b1_e h
      refine bw_callV S hK hZ hI (mX6_isOpen l G cy g a z rows asd sm buf bm 0 od om ow ca bo la pl to rd hh p2 r58 hc) Y_X6_isOpen V_X6_isOpen l_X6_43 ⟨(Nat.le_of_ble_eq_true rfl), (Nat.le_of_ble_eq_true rfl)⟩ (q0 := 0) rfl rfl rfl (ws' := (bw_mW cy a z rows asd sm buf bm 0 od om ow ca bo la pl to rd hh)) (bw_pS _) (bw_pS' _) rfl rfl hl.1 (rest := []) (st1 := [.int r58]) rfl rfl (Nat.le_of_ble_eq_true rfl) dX6_lend_58 ⟨Nat.le_refl _, Nat.le_refl _⟩ (fun H locs hI => ?_)
      refine lv_if_eq (tgt := 79) hx hb dX6_lend_61 (by decide) (fun c_61 => ?_) (fun c_61 => ?_)
      · rw [if_pos c_61] at h
        exact j79 z rows sm 0 _ _ _ h hI (lv_sub hl [0] rfl)
      rw [if_neg c_61] at h
      refine lv_aload_n hx hb dX6_lend_64 rfl (lv_at hl 0 rfl) ?_
      refine bw_get S hK hI 0 0 rfl rfl (by decide) i_X6 f_X6_7 rfl dX6_lend_65 ?_
      refine lv_iload_n hx hb dX6_lend_68 rfl (lv_at hl 1 rfl) ?_
      obtain ⟨r69, hc, h⟩ := bw_b1_e h
      refine bw_callP S hK hZ hI (mX6_at l G cy g p1 r69 hc) Y_X6_at V_X6_at l_X6_39 ⟨(Nat.le_of_ble_eq_true rfl), (Nat.le_of_ble_eq_true rfl)⟩ (rest := [.ref (a 1)]) (st1 := [.int r69, .ref (a 1)]) rfl hl.1 rfl rfl (Nat.le_of_ble_eq_true rfl) dX6_lend_69 ⟨Nat.le_refl _, Nat.le_refl _⟩ (fun H locs hI => ?_)
      refine lv_iconst (v := 2) hx hb dX6_lend_72 rfl ?_
      refine lv_iadd hx hb dX6_lend_73 ?_
      obtain ⟨v74, hv, h⟩ := bw_b1_e h
      refine bw_iald hx hb hK hI 1 hv rfl dX6_lend_74 ?_
      refine lv_iload_n hx hb dX6_lend_75 rfl (lv_at hl 3 rfl) ?_
      refine lv_icmp_ge (tgt := 85) hx hb dX6_lend_76 (by decide) (fun c_76 => ?_) (fun c_76 => ?_)
      · rw [if_pos c_76] at h
        refine lv_aload_n hx hb dX6_lend_85 rfl (lv_at hl 0 rfl) ?_
        obtain ⟨rows_86, sm_86, hc, h⟩ := bw_b2_e h
        refine bw_callV S hK hZ hI (mX6_save l G cy g a z rows asd sm buf bm 0 od om ow ca bo la pl to rd hh rows_86 sm_86 hc) Y_X6_save V_X6_save l_X6_117 ⟨(Nat.le_of_ble_eq_true rfl), (Nat.le_of_ble_eq_true rfl)⟩ (q0 := 0) rfl rfl rfl (ws' := (bw_mW cy a z rows_86 asd sm_86 buf bm 0 od om ow ca bo la pl to rd hh)) (bw_pS _) (bw_pS' _) rfl rfl hl.1 (rest := []) (st1 := []) rfl rfl (Nat.le_of_ble_eq_true rfl) dX6_lend_86 ⟨Nat.le_refl _, Nat.le_refl _⟩ (fun H locs hI => ?_)
        refine lv_aload_n hx hb dX6_lend_89 rfl (lv_at hl 0 rfl) ?_
        refine lv_iload_n hx hb dX6_lend_90 rfl (lv_at hl 1 rfl) ?_
        refine lv_iload_n hx hb dX6_lend_91 rfl (lv_at hl 2 rfl) ?_
        refine lv_iload_n hx hb dX6_lend_92 rfl (lv_at hl 3 rfl) ?_
        obtain ⟨z_93, hc, h⟩ := bw_b1_e h
        refine bw_callV S hK hZ hI (mX6_addLoan l G cy g a z rows_86 asd sm_86 buf bm 0 od om ow ca bo la pl to rd hh p1 p2 p3 z_93 hc) Y_X6_addLoan V_X6_addLoan l_X6_86 ⟨(Nat.le_of_ble_eq_true rfl), (Nat.le_of_ble_eq_true rfl)⟩ (q0 := 0) rfl rfl rfl (ws' := (bw_mW cy a z_93 rows_86 asd sm_86 buf bm 0 od om ow ca bo la pl to rd hh)) (bw_pS _) (bw_pS' _) rfl rfl hl.1 (rest := []) (st1 := []) rfl rfl (Nat.le_of_ble_eq_true rfl) dX6_lend_93 ⟨Nat.le_refl _, Nat.le_refl _⟩ (fun H locs hI => ?_)
        refine lv_aload_n hx hb dX6_lend_96 rfl (lv_at hl 0 rfl) ?_
        refine bw_get S hK hI 0 0 rfl rfl (by decide) i_X6 f_X6_7 rfl dX6_lend_97 ?_
        refine lv_iload_n hx hb dX6_lend_100 rfl (lv_at hl 1 rfl) ?_
        obtain ⟨r101, hc, h⟩ := bw_b1_e h
        refine bw_callP S hK hZ hI (mX6_at l G cy g p1 r101 hc) Y_X6_at V_X6_at l_X6_39 ⟨(Nat.le_of_ble_eq_true rfl), (Nat.le_of_ble_eq_true rfl)⟩ (rest := [.ref (a 1)]) (st1 := [.int r101, .ref (a 1)]) rfl hl.1 rfl rfl (Nat.le_of_ble_eq_true rfl) dX6_lend_101 ⟨Nat.le_refl _, Nat.le_refl _⟩ (fun H locs hI => ?_)
        refine lv_iconst (v := 2) hx hb dX6_lend_104 rfl ?_
        refine lv_iadd hx hb dX6_lend_105 ?_
        refine lv_dup2_11 hx hb dX6_lend_106 rfl rfl ?_
        obtain ⟨v107, hv, h⟩ := bw_b1_e h
        refine bw_iald hx hb hK hI 1 hv rfl dX6_lend_107 ?_
        refine lv_iload_n hx hb dX6_lend_108 rfl (lv_at hl 3 rfl) ?_
        refine lv_isub hx hb dX6_lend_109 ?_
        obtain ⟨z_110, hv, h⟩ := bw_b1_e h
        refine bw_iast hx hb hK hI 1 (ws' := (bw_mW cy a z_110 rows_86 asd sm_86 buf bm 0 od om ow ca bo la pl to rd hh)) hv rfl rfl dX6_lend_110 (fun H locs hI => ?_)
        refine lv_aload_n hx hb dX6_lend_111 rfl (lv_at hl 0 rfl) ?_
        refine bw_get S hK hI 0 0 rfl rfl (by decide) i_X6 f_X6_7 rfl dX6_lend_112 ?_
        refine lv_iload_n hx hb dX6_lend_115 rfl (lv_at hl 2 rfl) ?_
        obtain ⟨r116, hc, h⟩ := bw_b1_e h
        refine bw_callP S hK hZ hI (mX6_at l G cy g p2 r116 hc) Y_X6_at V_X6_at l_X6_39 ⟨(Nat.le_of_ble_eq_true rfl), (Nat.le_of_ble_eq_true rfl)⟩ (rest := [.ref (a 1)]) (st1 := [.int r116, .ref (a 1)]) rfl hl.1 rfl rfl (Nat.le_of_ble_eq_true rfl) dX6_lend_116 ⟨Nat.le_refl _, Nat.le_refl _⟩ (fun H locs hI => ?_)
        refine lv_iconst (v := 2) hx hb dX6_lend_119 rfl ?_
        refine lv_iadd hx hb dX6_lend_120 ?_
        refine lv_dup2_11 hx hb dX6_lend_121 rfl rfl ?_
        obtain ⟨v122, hv, h⟩ := bw_b1_e h
        refine bw_iald hx hb hK hI 1 hv rfl dX6_lend_122 ?_
        refine lv_iload_n hx hb dX6_lend_123 rfl (lv_at hl 3 rfl) ?_
        refine lv_iadd hx hb dX6_lend_124 ?_
        obtain ⟨z_125, hv, h⟩ := bw_b1_e h
        refine bw_iast hx hb hK hI 1 (ws' := (bw_mW cy a z_125 rows_86 asd sm_86 buf bm 0 od om ow ca bo la pl to rd hh)) hv rfl rfl dX6_lend_125 (fun H locs hI => ?_)
        refine lv_aload_n hx hb dX6_lend_126 rfl (lv_at hl 0 rfl) ?_
        refine lv_iload_n hx hb dX6_lend_127 rfl (lv_at hl 2 rfl) ?_
        refine lv_iload_n hx hb dX6_lend_128 rfl (lv_at hl 1 rfl) ?_
        obtain ⟨r129, hc, h⟩ := bw_b1_e h
        refine bw_callV S hK hZ hI (mX6_owedOf l G cy g a z_125 rows_86 asd sm_86 buf bm 0 od om ow ca bo la pl to rd hh p2 p1 r129 hc) Y_X6_owedOf V_X6_owedOf l_X6_135 ⟨(Nat.le_of_ble_eq_true rfl), (Nat.le_of_ble_eq_true rfl)⟩ (q0 := 0) rfl rfl rfl (ws' := (bw_mW cy a z_125 rows_86 asd sm_86 buf bm 0 od om ow ca bo la pl to rd hh)) (bw_pS _) (bw_pS' _) rfl rfl hl.1 (rest := []) (st1 := [.int r129]) rfl rfl (Nat.le_of_ble_eq_true rfl) dX6_lend_129 ⟨Nat.le_refl _, Nat.le_refl _⟩ (fun H locs hI => ?_)
        subst hQ
        exact bw_iret (rr := (r, z', rows', sm', th')) S hr hlocks h (fun q : (bw_A1 × bw_A1 × Int32 × Int32) => (bw_mW cy a q.1 q.2.1 asd q.2.2.1 buf bm q.2.2.2 od om ow ca bo la pl to rd hh)) hI rfl dX6_lend_132
      rw [if_neg c_76] at h
      exact j79 z rows sm 0 _ _ _ h hI (lv_sub hl [0] rfl)
    rw [if_pos c_39] at h
    exact j42 z rows sm 0 _ _ _ h hI (lv_sub hl [0] rfl)
  rw [if_pos c_18] at h
  exact j21 z rows sm 0 _ _ _ h hI (lv_sub hl [0] rfl)
set_option maxHeartbeats 4000000 in
set_option maxRecDepth 100000 in
theorem mX6_payBack (l : Launch) (G : va_G) (cy : Nat → ClassId) (g : Nat) (a : Nat → Nat) (z : bw_A1) (rows : bw_A1) (asd : bw_A1) (sm : Int32) (buf : bw_A1) (bm : Int32) (th : Int32) (od : bw_A1) (om : Int32) (ow : Int32) (ca : Int32) (bo : Int32) (la : Int32) (pl : Int32) (to : Int32) (rd : bw_A1) (hh : Int64) (p1 : Int32) (p2 : Int32) (p3 : Int32) (r : Int32) (z' : bw_A1) (rows' : bw_A1) (sm' : Int32) (th' : Int32) (h : fX6_payBack z rows sm th p1 p2 p3 = some (r, z', rows', sm', th')) : bw_M l yX6_payBack cX6_payBack 4 (some .int) 3 66 G cy g [.ref (a 0), .int p1, .int p2, .int p3] (bw_mW cy a z rows asd sm buf bm th od om ow ca bo la pl to rd hh) (some (.int r)) (bw_mW cy a z' rows' asd sm' buf bm th' od om ow ca bo la pl to rd hh) := by
  refine bw_ofW (by decide +kernel) RX6 rfl (Nat.le_of_ble_eq_true rfl) ?_
  intro p e s m below meth c ls S hr hlocks hK hZ hI hl
  have hx := S.1
  have hb := S.2.1
  have hown := S.2.2.2.1
  have hts := S.2.2.2.2
  generalize va_A _ s.heap.size = A at hI hZ ⊢
  generalize hQ : MQ below _ _ s 0 0 A = Q
  have hl : lv_has ls 4 [(0, .ref (a 0)), (1, .int p1), (2, .int p2), (3, .int p3)] := hl
  have j21 : ∀ (z : bw_A1) (rows : bw_A1) (sm : Int32) (th : Int32) (H : Heap) (locs : List Loc) (ls : Array Slot), jX6_payBack_21 z rows sm th = some (r, z', rows', sm', th') → bw_I G A s.heap (bw_mW cy a z rows asd sm buf bm th od om ow ca bo la pl to rd hh) H locs → lv_has ls 4 [(0, .ref (a 0))] → W p l e (bw_rm 3 66) s m [.ref (a 0), .int p1, .int p2, .int p3].toArray below meth c H locs 0 0 Q (F0 m 21 ls []) := by
    intro z rows sm th H locs ls h hI hl
    unfold jX6_payBack_21 at h
    refine lv_aload_n hx hb dX6_payBack_21 rfl (lv_at hl 0 rfl) ?_
    refine lv_iconst (v := 1) hx hb dX6_payBack_22 rfl ?_
    obtain ⟨r23, th_23, hc, h⟩ := bw_b2_e h
    refine bw_callV S hK hZ hI (mX6_fails l G cy g a z rows asd sm buf bm th od om ow ca bo la pl to rd hh 1 r23 th_23 hc) Y_X6_fails V_X6_fails l_X6_114 ⟨(Nat.le_of_ble_eq_true rfl), (Nat.le_of_ble_eq_true rfl)⟩ (q0 := 0) rfl rfl rfl (ws' := (bw_mW cy a z rows asd sm buf bm th_23 od om ow ca bo la pl to rd hh)) (bw_pS _) (bw_pS' _) rfl rfl hl.1 (rest := []) (st1 := [.int r23]) rfl rfl (Nat.le_of_ble_eq_true rfl) dX6_payBack_23 ⟨Nat.le_refl _, Nat.le_refl _⟩ (fun H locs hI => ?_)
    subst hQ
    exact bw_iret (rr := (r, z', rows', sm', th')) S hr hlocks h (fun q : (bw_A1 × bw_A1 × Int32 × Int32) => (bw_mW cy a q.1 q.2.1 asd q.2.2.1 buf bm q.2.2.2 od om ow ca bo la pl to rd hh)) hI rfl dX6_payBack_26
  have j43 : ∀ (z : bw_A1) (rows : bw_A1) (sm : Int32) (th : Int32) (H : Heap) (locs : List Loc) (ls : Array Slot), jX6_payBack_43 z rows sm th = some (r, z', rows', sm', th') → bw_I G A s.heap (bw_mW cy a z rows asd sm buf bm th od om ow ca bo la pl to rd hh) H locs → lv_has ls 4 [(0, .ref (a 0))] → W p l e (bw_rm 3 66) s m [.ref (a 0), .int p1, .int p2, .int p3].toArray below meth c H locs 0 0 Q (F0 m 43 ls []) := by
    intro z rows sm th H locs ls h hI hl
    unfold jX6_payBack_43 at h
    refine lv_aload_n hx hb dX6_payBack_43 rfl (lv_at hl 0 rfl) ?_
    refine lv_iconst (v := 2) hx hb dX6_payBack_44 rfl ?_
    obtain ⟨r45, th_45, hc, h⟩ := bw_b2_e h
    refine bw_callV S hK hZ hI (mX6_fails l G cy g a z rows asd sm buf bm th od om ow ca bo la pl to rd hh 2 r45 th_45 hc) Y_X6_fails V_X6_fails l_X6_114 ⟨(Nat.le_of_ble_eq_true rfl), (Nat.le_of_ble_eq_true rfl)⟩ (q0 := 0) rfl rfl rfl (ws' := (bw_mW cy a z rows asd sm buf bm th_45 od om ow ca bo la pl to rd hh)) (bw_pS _) (bw_pS' _) rfl rfl hl.1 (rest := []) (st1 := [.int r45]) rfl rfl (Nat.le_of_ble_eq_true rfl) dX6_payBack_45 ⟨Nat.le_refl _, Nat.le_refl _⟩ (fun H locs hI => ?_)
    subst hQ
    exact bw_iret (rr := (r, z', rows', sm', th')) S hr hlocks h (fun q : (bw_A1 × bw_A1 × Int32 × Int32) => (bw_mW cy a q.1 q.2.1 asd q.2.2.1 buf bm q.2.2.2 od om ow ca bo la pl to rd hh)) hI rfl dX6_payBack_48
  have j74 : ∀ (z : bw_A1) (rows : bw_A1) (sm : Int32) (th : Int32) (H : Heap) (locs : List Loc) (ls : Array Slot), jX6_payBack_74 z rows sm th = some (r, z', rows', sm', th') → bw_I G A s.heap (bw_mW cy a z rows asd sm buf bm th od om ow ca bo la pl to rd hh) H locs → lv_has ls 4 [(0, .ref (a 0))] → W p l e (bw_rm 3 66) s m [.ref (a 0), .int p1, .int p2, .int p3].toArray below meth c H locs 0 0 Q (F0 m 74 ls []) := by
    intro z rows sm th H locs ls h hI hl
    unfold jX6_payBack_74 at h
    refine lv_aload_n hx hb dX6_payBack_74 rfl (lv_at hl 0 rfl) ?_
    refine lv_iconst (v := 3) hx hb dX6_payBack_75 rfl ?_
    obtain ⟨r76, th_76, hc, h⟩ := bw_b2_e h
    refine bw_callV S hK hZ hI (mX6_fails l G cy g a z rows asd sm buf bm th od om ow ca bo la pl to rd hh 3 r76 th_76 hc) Y_X6_fails V_X6_fails l_X6_114 ⟨(Nat.le_of_ble_eq_true rfl), (Nat.le_of_ble_eq_true rfl)⟩ (q0 := 0) rfl rfl rfl (ws' := (bw_mW cy a z rows asd sm buf bm th_76 od om ow ca bo la pl to rd hh)) (bw_pS _) (bw_pS' _) rfl rfl hl.1 (rest := []) (st1 := [.int r76]) rfl rfl (Nat.le_of_ble_eq_true rfl) dX6_payBack_76 ⟨Nat.le_refl _, Nat.le_refl _⟩ (fun H locs hI => ?_)
    subst hQ
    exact bw_iret (rr := (r, z', rows', sm', th')) S hr hlocks h (fun q : (bw_A1 × bw_A1 × Int32 × Int32) => (bw_mW cy a q.1 q.2.1 asd q.2.2.1 buf bm q.2.2.2 od om ow ca bo la pl to rd hh)) hI rfl dX6_payBack_79
  unfold fX6_payBack at h
  refine lv_aload_n hx hb dX6_payBack_0 rfl (lv_at hl 0 rfl) ?_
  refine lv_iconst (v := 0) hx hb dX6_payBack_1 rfl ?_
  refine bw_put S hK hI 0 6 (ws' := (bw_mW cy a z rows asd sm buf bm 0 od om ow ca bo la pl to rd hh)) tyX6 tyX6_ok nmX6 rfl rfl (by decide) i_X6 f_X6_28 rfl rfl rfl rfl (Nat.le_of_ble_eq_true rfl) rfl dX6_payBack_2 (fun H locs hI => ?_)
  refine lv_aload_n hx hb dX6_payBack_5 rfl (lv_at hl 0 rfl) ?_
  refine lv_iload_n hx hb dX6_payBack_6 rfl (lv_at hl 1 rfl) ?_
  obtain ⟨r7, hc, h⟩ := bw_b1_e h
  refine bw_callV S hK hZ hI (mX6_isProject l G cy g a z rows asd sm buf bm 0 od om ow ca bo la pl to rd hh p1 r7 hc) Y_X6_isProject V_X6_isProject l_X6_123 ⟨(Nat.le_of_ble_eq_true rfl), (Nat.le_of_ble_eq_true rfl)⟩ (q0 := 0) rfl rfl rfl (ws' := (bw_mW cy a z rows asd sm buf bm 0 od om ow ca bo la pl to rd hh)) (bw_pS _) (bw_pS' _) rfl rfl hl.1 (rest := []) (st1 := [.int r7]) rfl rfl (Nat.le_of_ble_eq_true rfl) dX6_payBack_7 ⟨Nat.le_refl _, Nat.le_refl _⟩ (fun H locs hI => ?_)
  refine lv_if_eq (tgt := 21) hx hb dX6_payBack_10 (by decide) (fun c_10 => ?_) (fun c_10 => ?_)
  · rw [if_pos c_10] at h
    exact j21 z rows sm 0 _ _ _ h hI (lv_sub hl [0] rfl)
  rw [if_neg c_10] at h
  refine lv_aload_n hx hb dX6_payBack_13 rfl (lv_at hl 0 rfl) ?_
  refine lv_iload_n hx hb dX6_payBack_14 rfl (lv_at hl 2 rfl) ?_
  obtain ⟨r15, hc, h⟩ := bw_b1_e h
  refine bw_callV S hK hZ hI (mX6_isProject l G cy g a z rows asd sm buf bm 0 od om ow ca bo la pl to rd hh p2 r15 hc) Y_X6_isProject V_X6_isProject l_X6_123 ⟨(Nat.le_of_ble_eq_true rfl), (Nat.le_of_ble_eq_true rfl)⟩ (q0 := 0) rfl rfl rfl (ws' := (bw_mW cy a z rows asd sm buf bm 0 od om ow ca bo la pl to rd hh)) (bw_pS _) (bw_pS' _) rfl rfl hl.1 (rest := []) (st1 := [.int r15]) rfl rfl (Nat.le_of_ble_eq_true rfl) dX6_payBack_15 ⟨Nat.le_refl _, Nat.le_refl _⟩ (fun H locs hI => ?_)
  refine lv_if_ne (tgt := 27) hx hb dX6_payBack_18 (by decide) (fun c_18 => ?_) (fun c_18 => ?_)
  · rw [if_neg c_18] at h
    refine lv_iload_n hx hb dX6_payBack_27 rfl (lv_at hl 2 rfl) ?_
    refine lv_iload_n hx hb dX6_payBack_28 rfl (lv_at hl 1 rfl) ?_
    refine lv_icmp_eq (tgt := 43) hx hb dX6_payBack_29 (by decide) (fun c_29 => ?_) (fun c_29 => ?_)
    · rw [if_pos c_29] at h
      exact j43 z rows sm 0 _ _ _ h hI (lv_sub hl [0] rfl)
    rw [if_neg c_29] at h
    refine lv_iload_n hx hb dX6_payBack_32 rfl (lv_at hl 3 rfl) ?_
    refine lv_iconst (v := 1) hx hb dX6_payBack_33 rfl ?_
    refine lv_sipush (v := 9999) hx hb dX6_payBack_34 (by decide) ?_
    obtain ⟨r37, hc, h⟩ := bw_b1_e h
    refine bw_callP S hK hZ hI (mX6_in l G cy g p3 1 9999 r37 hc) Y_X6_in V_X6_in l_X6_35 ⟨(Nat.le_of_ble_eq_true rfl), (Nat.le_of_ble_eq_true rfl)⟩ (rest := []) (st1 := [.int r37]) rfl hl.1 rfl rfl (Nat.le_of_ble_eq_true rfl) dX6_payBack_37 ⟨Nat.le_refl _, Nat.le_refl _⟩ (fun H locs hI => ?_)
    refine lv_if_ne (tgt := 49) hx hb dX6_payBack_40 (by decide) (fun c_40 => ?_) (fun c_40 => ?_)
    · rw [if_neg c_40] at h
      refine lv_aload_n hx hb dX6_payBack_49 rfl (lv_at hl 0 rfl) ?_
      refine lv_iload_n hx hb dX6_payBack_50 rfl (lv_at hl 1 rfl) ?_
      refine lv_iload_n hx hb dX6_payBack_51 rfl (lv_at hl 2 rfl) ?_
      obtain ⟨r52, hc, h⟩ := bw_b1_e h
      refine bw_callV S hK hZ hI (mX6_owedOf l G cy g a z rows asd sm buf bm 0 od om ow ca bo la pl to rd hh p1 p2 r52 hc) Y_X6_owedOf V_X6_owedOf l_X6_135 ⟨(Nat.le_of_ble_eq_true rfl), (Nat.le_of_ble_eq_true rfl)⟩ (q0 := 0) rfl rfl rfl (ws' := (bw_mW cy a z rows asd sm buf bm 0 od om ow ca bo la pl to rd hh)) (bw_pS _) (bw_pS' _) rfl rfl hl.1 (rest := []) (st1 := [.int r52]) rfl rfl (Nat.le_of_ble_eq_true rfl) dX6_payBack_52 ⟨Nat.le_refl _, Nat.le_refl _⟩ (fun H locs hI => ?_)
      refine lv_iload_n hx hb dX6_payBack_55 rfl (lv_at hl 3 rfl) ?_
      refine lv_icmp_lt (tgt := 74) hx hb dX6_payBack_56 (by decide) (fun c_56 => ?_) (fun c_56 => ?_)
      · rw [if_pos c_56] at h
        exact j74 z rows sm 0 _ _ _ h hI (lv_sub hl [0] rfl)
      rw [if_neg c_56] at h
      refine lv_aload_n hx hb dX6_payBack_59 rfl (lv_at hl 0 rfl) ?_
      refine bw_get S hK hI 0 0 rfl rfl (by decide) i_X6 f_X6_7 rfl dX6_payBack_60 ?_
      refine lv_iload_n hx hb dX6_payBack_63 rfl (lv_at hl 1 rfl) ?_
      obtain ⟨r64, hc, h⟩ := bw_b1_e h
      refine bw_callP S hK hZ hI (mX6_at l G cy g p1 r64 hc) Y_X6_at V_X6_at l_X6_39 ⟨(Nat.le_of_ble_eq_true rfl), (Nat.le_of_ble_eq_true rfl)⟩ (rest := [.ref (a 1)]) (st1 := [.int r64, .ref (a 1)]) rfl hl.1 rfl rfl (Nat.le_of_ble_eq_true rfl) dX6_payBack_64 ⟨Nat.le_refl _, Nat.le_refl _⟩ (fun H locs hI => ?_)
      refine lv_iconst (v := 2) hx hb dX6_payBack_67 rfl ?_
      refine lv_iadd hx hb dX6_payBack_68 ?_
      obtain ⟨v69, hv, h⟩ := bw_b1_e h
      refine bw_iald hx hb hK hI 1 hv rfl dX6_payBack_69 ?_
      refine lv_iload_n hx hb dX6_payBack_70 rfl (lv_at hl 3 rfl) ?_
      refine lv_icmp_ge (tgt := 80) hx hb dX6_payBack_71 (by decide) (fun c_71 => ?_) (fun c_71 => ?_)
      · rw [if_pos c_71] at h
        refine lv_aload_n hx hb dX6_payBack_80 rfl (lv_at hl 0 rfl) ?_
        obtain ⟨rows_81, sm_81, hc, h⟩ := bw_b2_e h
        refine bw_callV S hK hZ hI (mX6_save l G cy g a z rows asd sm buf bm 0 od om ow ca bo la pl to rd hh rows_81 sm_81 hc) Y_X6_save V_X6_save l_X6_117 ⟨(Nat.le_of_ble_eq_true rfl), (Nat.le_of_ble_eq_true rfl)⟩ (q0 := 0) rfl rfl rfl (ws' := (bw_mW cy a z rows_81 asd sm_81 buf bm 0 od om ow ca bo la pl to rd hh)) (bw_pS _) (bw_pS' _) rfl rfl hl.1 (rest := []) (st1 := []) rfl rfl (Nat.le_of_ble_eq_true rfl) dX6_payBack_81 ⟨Nat.le_refl _, Nat.le_refl _⟩ (fun H locs hI => ?_)
        refine lv_aload_n hx hb dX6_payBack_84 rfl (lv_at hl 0 rfl) ?_
        refine bw_get S hK hI 0 0 rfl rfl (by decide) i_X6 f_X6_7 rfl dX6_payBack_85 ?_
        refine lv_iload_n hx hb dX6_payBack_88 rfl (lv_at hl 1 rfl) ?_
        obtain ⟨r89, hc, h⟩ := bw_b1_e h
        refine bw_callP S hK hZ hI (mX6_at l G cy g p1 r89 hc) Y_X6_at V_X6_at l_X6_39 ⟨(Nat.le_of_ble_eq_true rfl), (Nat.le_of_ble_eq_true rfl)⟩ (rest := [.ref (a 1)]) (st1 := [.int r89, .ref (a 1)]) rfl hl.1 rfl rfl (Nat.le_of_ble_eq_true rfl) dX6_payBack_89 ⟨Nat.le_refl _, Nat.le_refl _⟩ (fun H locs hI => ?_)
        refine lv_iconst (v := 2) hx hb dX6_payBack_92 rfl ?_
        refine lv_iadd hx hb dX6_payBack_93 ?_
        refine lv_dup2_11 hx hb dX6_payBack_94 rfl rfl ?_
        obtain ⟨v95, hv, h⟩ := bw_b1_e h
        refine bw_iald hx hb hK hI 1 hv rfl dX6_payBack_95 ?_
        refine lv_iload_n hx hb dX6_payBack_96 rfl (lv_at hl 3 rfl) ?_
        refine lv_isub hx hb dX6_payBack_97 ?_
        obtain ⟨z_98, hv, h⟩ := bw_b1_e h
        refine bw_iast hx hb hK hI 1 (ws' := (bw_mW cy a z_98 rows_81 asd sm_81 buf bm 0 od om ow ca bo la pl to rd hh)) hv rfl rfl dX6_payBack_98 (fun H locs hI => ?_)
        refine lv_aload_n hx hb dX6_payBack_99 rfl (lv_at hl 0 rfl) ?_
        refine bw_get S hK hI 0 0 rfl rfl (by decide) i_X6 f_X6_7 rfl dX6_payBack_100 ?_
        refine lv_iload_n hx hb dX6_payBack_103 rfl (lv_at hl 2 rfl) ?_
        obtain ⟨r104, hc, h⟩ := bw_b1_e h
        refine bw_callP S hK hZ hI (mX6_at l G cy g p2 r104 hc) Y_X6_at V_X6_at l_X6_39 ⟨(Nat.le_of_ble_eq_true rfl), (Nat.le_of_ble_eq_true rfl)⟩ (rest := [.ref (a 1)]) (st1 := [.int r104, .ref (a 1)]) rfl hl.1 rfl rfl (Nat.le_of_ble_eq_true rfl) dX6_payBack_104 ⟨Nat.le_refl _, Nat.le_refl _⟩ (fun H locs hI => ?_)
        refine lv_iconst (v := 2) hx hb dX6_payBack_107 rfl ?_
        refine lv_iadd hx hb dX6_payBack_108 ?_
        refine lv_dup2_11 hx hb dX6_payBack_109 rfl rfl ?_
        obtain ⟨v110, hv, h⟩ := bw_b1_e h
        refine bw_iald hx hb hK hI 1 hv rfl dX6_payBack_110 ?_
        refine lv_iload_n hx hb dX6_payBack_111 rfl (lv_at hl 3 rfl) ?_
        refine lv_iadd hx hb dX6_payBack_112 ?_
        obtain ⟨z_113, hv, h⟩ := bw_b1_e h
        refine bw_iast hx hb hK hI 1 (ws' := (bw_mW cy a z_113 rows_81 asd sm_81 buf bm 0 od om ow ca bo la pl to rd hh)) hv rfl rfl dX6_payBack_113 (fun H locs hI => ?_)
        refine lv_aload_n hx hb dX6_payBack_114 rfl (lv_at hl 0 rfl) ?_
        refine lv_aload_n hx hb dX6_payBack_115 rfl (lv_at hl 0 rfl) ?_
        refine lv_iload_n hx hb dX6_payBack_116 rfl (lv_at hl 2 rfl) ?_
        refine lv_iload_n hx hb dX6_payBack_117 rfl (lv_at hl 1 rfl) ?_
        obtain ⟨r118, hc, h⟩ := bw_b1_e h
        refine bw_callV S hK hZ hI (mX6_placeOf l G cy g a z_113 rows_81 asd sm_81 buf bm 0 od om ow ca bo la pl to rd hh p2 p1 r118 hc) Y_X6_placeOf V_X6_placeOf l_X6_53 ⟨(Nat.le_of_ble_eq_true rfl), (Nat.le_of_ble_eq_true rfl)⟩ (q0 := 0) rfl rfl rfl (ws' := (bw_mW cy a z_113 rows_81 asd sm_81 buf bm 0 od om ow ca bo la pl to rd hh)) (bw_pS _) (bw_pS' _) rfl rfl hl.1 (rest := [.ref (a 0)]) (st1 := [.int r118, .ref (a 0)]) rfl rfl (Nat.le_of_ble_eq_true rfl) dX6_payBack_118 ⟨Nat.le_refl _, Nat.le_refl _⟩ (fun H locs hI => ?_)
        refine lv_iload_n hx hb dX6_payBack_121 rfl (lv_at hl 3 rfl) ?_
        obtain ⟨z_122, hc, h⟩ := bw_b1_e h
        refine bw_callV S hK hZ hI (mX6_cutLoan l G cy g a z_113 rows_81 asd sm_81 buf bm 0 od om ow ca bo la pl to rd hh r118 p3 z_122 hc) Y_X6_cutLoan V_X6_cutLoan l_X6_64 ⟨(Nat.le_of_ble_eq_true rfl), (Nat.le_of_ble_eq_true rfl)⟩ (q0 := 0) rfl rfl rfl (ws' := (bw_mW cy a z_122 rows_81 asd sm_81 buf bm 0 od om ow ca bo la pl to rd hh)) (bw_pS _) (bw_pS' _) rfl rfl hl.1 (rest := []) (st1 := []) rfl rfl (Nat.le_of_ble_eq_true rfl) dX6_payBack_122 ⟨Nat.le_refl _, Nat.le_refl _⟩ (fun H locs hI => ?_)
        refine lv_aload_n hx hb dX6_payBack_125 rfl (lv_at hl 0 rfl) ?_
        refine lv_iload_n hx hb dX6_payBack_126 rfl (lv_at hl 1 rfl) ?_
        refine lv_iload_n hx hb dX6_payBack_127 rfl (lv_at hl 2 rfl) ?_
        obtain ⟨r128, hc, h⟩ := bw_b1_e h
        refine bw_callV S hK hZ hI (mX6_owedOf l G cy g a z_122 rows_81 asd sm_81 buf bm 0 od om ow ca bo la pl to rd hh p1 p2 r128 hc) Y_X6_owedOf V_X6_owedOf l_X6_135 ⟨(Nat.le_of_ble_eq_true rfl), (Nat.le_of_ble_eq_true rfl)⟩ (q0 := 0) rfl rfl rfl (ws' := (bw_mW cy a z_122 rows_81 asd sm_81 buf bm 0 od om ow ca bo la pl to rd hh)) (bw_pS _) (bw_pS' _) rfl rfl hl.1 (rest := []) (st1 := [.int r128]) rfl rfl (Nat.le_of_ble_eq_true rfl) dX6_payBack_128 ⟨Nat.le_refl _, Nat.le_refl _⟩ (fun H locs hI => ?_)
        subst hQ
        exact bw_iret (rr := (r, z', rows', sm', th')) S hr hlocks h (fun q : (bw_A1 × bw_A1 × Int32 × Int32) => (bw_mW cy a q.1 q.2.1 asd q.2.2.1 buf bm q.2.2.2 od om ow ca bo la pl to rd hh)) hI rfl dX6_payBack_131
      rw [if_neg c_71] at h
      exact j74 z rows sm 0 _ _ _ h hI (lv_sub hl [0] rfl)
    rw [if_pos c_40] at h
    exact j43 z rows sm 0 _ _ _ h hI (lv_sub hl [0] rfl)
  rw [if_pos c_18] at h
  exact j21 z rows sm 0 _ _ _ h hI (lv_sub hl [0] rfl)
set_option maxHeartbeats 4000000 in
set_option maxRecDepth 100000 in
theorem mX6_writeOff (l : Launch) (G : va_G) (cy : Nat → ClassId) (g : Nat) (a : Nat → Nat) (z : bw_A1) (rows : bw_A1) (asd : bw_A1) (sm : Int32) (buf : bw_A1) (bm : Int32) (th : Int32) (od : bw_A1) (om : Int32) (ow : Int32) (ca : Int32) (bo : Int32) (la : Int32) (pl : Int32) (to : Int32) (rd : bw_A1) (hh : Int64) (p1 : Int32) (r : Int32) (z' : bw_A1) (h : fX6_writeOff z p1 = some (r, z')) : bw_M l yX6_writeOff cX6_writeOff 7 (some .int) 2 42 G cy g [.ref (a 0), .int p1] (bw_mW cy a z rows asd sm buf bm th od om ow ca bo la pl to rd hh) (some (.int r)) (bw_mW cy a z' rows asd sm buf bm th od om ow ca bo la pl to rd hh) := by
  refine bw_ofW (by decide +kernel) RX6 rfl (Nat.le_of_ble_eq_true rfl) ?_
  intro p e s m below meth c ls S hr hlocks hK hZ hI hl
  have hx := S.1
  have hb := S.2.1
  have hown := S.2.2.2.1
  have hts := S.2.2.2.2
  generalize va_A _ s.heap.size = A at hI hZ ⊢
  generalize hQ : MQ below _ _ s 0 0 A = Q
  have hl : lv_has ls 7 [(0, .ref (a 0)), (1, .int p1)] := hl
  have j115 : ∀ (z : bw_A1) (x1 : Int32) (x2 : Int32) (x3 : Int32) (k4 : bw_A1 → Int32 → Int32 → Option (Int32 × bw_A1)) (hk4 : ∀ (H : Heap) (locs : List Loc) (ls : Array Slot) (z_ : bw_A1) (x2_ : Int32) (x3_ : Int32), k4 z_ x2_ x3_ = some (r, z') → bw_I G A s.heap (bw_mW cy a z_ rows asd sm buf bm th od om ow ca bo la pl to rd hh) H locs → lv_has ls 7 [(0, .ref (a 0)), (1, .int x1), (2, .int x2_), (3, .int x3_)] → W p l e (bw_rm 2 42) s m [.ref (a 0), .int p1].toArray below meth c H locs 0 0 Q (F0 m 4 ls [])) (H : Heap) (locs : List Loc) (ls : Array Slot), jX6_writeOff_115 k4 z x1 x2 x3 = some (r, z') → bw_I G A s.heap (bw_mW cy a z rows asd sm buf bm th od om ow ca bo la pl to rd hh) H locs → lv_has ls 7 [(0, .ref (a 0)), (1, .int x1), (2, .int x2), (3, .int x3)] → W p l e (bw_rm 2 42) s m [.ref (a 0), .int p1].toArray below meth c H locs 0 0 Q (F0 m 115 ls []) := by
    intro z x1 x2 x3 k4 hk4 H locs ls h hI hl
    unfold jX6_writeOff_115 at h
    refine lv_goto (tgt := 4) hx hb dX6_writeOff_115 (by decide) ?_
    exact hk4 _ _ _ z x2 x3 h hI (lv_sub hl [0,1,2,3] rfl)
  have j63 : ∀ (z : bw_A1) (x1 : Int32) (x2 : Int32) (x3 : Int32) (x4 : Int32) (x5 : Int32) (x6 : Int32) (k4 : bw_A1 → Int32 → Int32 → Option (Int32 × bw_A1)) (hk4 : ∀ (H : Heap) (locs : List Loc) (ls : Array Slot) (z_ : bw_A1) (x2_ : Int32) (x3_ : Int32), k4 z_ x2_ x3_ = some (r, z') → bw_I G A s.heap (bw_mW cy a z_ rows asd sm buf bm th od om ow ca bo la pl to rd hh) H locs → lv_has ls 7 [(0, .ref (a 0)), (1, .int x1), (2, .int x2_), (3, .int x3_)] → W p l e (bw_rm 2 42) s m [.ref (a 0), .int p1].toArray below meth c H locs 0 0 Q (F0 m 4 ls [])) (H : Heap) (locs : List Loc) (ls : Array Slot), jX6_writeOff_63 k4 z x1 x2 x3 x4 x5 x6 = some (r, z') → bw_I G A s.heap (bw_mW cy a z rows asd sm buf bm th od om ow ca bo la pl to rd hh) H locs → lv_has ls 7 [(0, .ref (a 0)), (1, .int x1), (2, .int x2), (3, .int x3), (4, .int x4), (5, .int x5), (6, .int x6)] → W p l e (bw_rm 2 42) s m [.ref (a 0), .int p1].toArray below meth c H locs 0 0 Q (F0 m 63 ls []) := by
    intro z x1 x2 x3 x4 x5 x6 k4 hk4 H locs ls h hI hl
    unfold jX6_writeOff_63 at h
    refine lv_aload_n hx hb dX6_writeOff_63 rfl (lv_at hl 0 rfl) ?_
    refine bw_get S hK hI 0 0 rfl rfl (by decide) i_X6 f_X6_7 rfl dX6_writeOff_64 ?_
    refine lv_iload hx hb dX6_writeOff_67 (lv_at hl 4 rfl) ?_
    obtain ⟨r69, hc, h⟩ := bw_b1_e h
    refine bw_callP S hK hZ hI (mX6_at l G cy g x4 r69 hc) Y_X6_at V_X6_at l_X6_39 ⟨(Nat.le_of_ble_eq_true rfl), (Nat.le_of_ble_eq_true rfl)⟩ (rest := [.ref (a 1)]) (st1 := [.int r69, .ref (a 1)]) rfl hl.1 rfl rfl (Nat.le_of_ble_eq_true rfl) dX6_writeOff_69 ⟨Nat.le_refl _, Nat.le_refl _⟩ (fun H locs hI => ?_)
    refine lv_bipush (v := 9) hx hb dX6_writeOff_72 (by decide) ?_
    refine lv_iadd hx hb dX6_writeOff_74 ?_
    refine lv_dup2_11 hx hb dX6_writeOff_75 rfl rfl ?_
    obtain ⟨v76, hv, h⟩ := bw_b1_e h
    refine bw_iald hx hb hK hI 1 hv rfl dX6_writeOff_76 ?_
    refine lv_iload hx hb dX6_writeOff_77 (lv_at hl 6 rfl) ?_
    refine lv_iadd hx hb dX6_writeOff_79 ?_
    obtain ⟨z_80, hv, h⟩ := bw_b1_e h
    refine bw_iast hx hb hK hI 1 (ws' := (bw_mW cy a z_80 rows asd sm buf bm th od om ow ca bo la pl to rd hh)) hv rfl rfl dX6_writeOff_80 (fun H locs hI => ?_)
    refine lv_aload_n hx hb dX6_writeOff_81 rfl (lv_at hl 0 rfl) ?_
    refine bw_get S hK hI 0 0 rfl rfl (by decide) i_X6 f_X6_7 rfl dX6_writeOff_82 ?_
    refine lv_iload hx hb dX6_writeOff_85 (lv_at hl 5 rfl) ?_
    obtain ⟨r87, hc, h⟩ := bw_b1_e h
    refine bw_callP S hK hZ hI (mX6_at l G cy g x5 r87 hc) Y_X6_at V_X6_at l_X6_39 ⟨(Nat.le_of_ble_eq_true rfl), (Nat.le_of_ble_eq_true rfl)⟩ (rest := [.ref (a 1)]) (st1 := [.int r87, .ref (a 1)]) rfl hl.1 rfl rfl (Nat.le_of_ble_eq_true rfl) dX6_writeOff_87 ⟨Nat.le_refl _, Nat.le_refl _⟩ (fun H locs hI => ?_)
    refine lv_bipush (v := 8) hx hb dX6_writeOff_90 (by decide) ?_
    refine lv_iadd hx hb dX6_writeOff_92 ?_
    refine lv_dup2_11 hx hb dX6_writeOff_93 rfl rfl ?_
    obtain ⟨v94, hv, h⟩ := bw_b1_e h
    refine bw_iald hx hb hK hI 1 hv rfl dX6_writeOff_94 ?_
    refine lv_iload hx hb dX6_writeOff_95 (lv_at hl 6 rfl) ?_
    refine lv_iadd hx hb dX6_writeOff_97 ?_
    obtain ⟨z_98, hv, h⟩ := bw_b1_e h
    refine bw_iast hx hb hK hI 1 (ws' := (bw_mW cy a z_98 rows asd sm buf bm th od om ow ca bo la pl to rd hh)) hv rfl rfl dX6_writeOff_98 (fun H locs hI => ?_)
    refine lv_iload_n hx hb dX6_writeOff_99 rfl (lv_at hl 2 rfl) ?_
    refine lv_iload hx hb dX6_writeOff_100 (lv_at hl 6 rfl) ?_
    refine lv_iadd hx hb dX6_writeOff_102 ?_
    refine lv_topi (fun x2_103 e_103 => ?_)
    have h := bw_let_e h e_103
    clear e_103
    refine lv_istore_n (lv' := [(2, .int x2_103), (0, .ref (a 0)), (1, .int x1), (3, .int x3), (4, .int x4), (5, .int x5), (6, .int x6)]) hx hb dX6_writeOff_103 rfl hl (by decide) rfl (fun ls hl => ?_)
    refine lv_aload_n hx hb dX6_writeOff_104 rfl (lv_at hl 1 rfl) ?_
    refine lv_iload_n hx hb dX6_writeOff_105 rfl (lv_at hl 3 rfl) ?_
    obtain ⟨z_106, hc, h⟩ := bw_b1_e h
    refine bw_callV S hK hZ hI (mX6_dropLoan l G cy g a z_98 rows asd sm buf bm th od om ow ca bo la pl to rd hh x3 z_106 hc) Y_X6_dropLoan V_X6_dropLoan l_X6_57 ⟨(Nat.le_of_ble_eq_true rfl), (Nat.le_of_ble_eq_true rfl)⟩ (q0 := 0) rfl rfl rfl (ws' := (bw_mW cy a z_106 rows asd sm buf bm th od om ow ca bo la pl to rd hh)) (bw_pS _) (bw_pS' _) rfl rfl hl.1 (rest := []) (st1 := []) rfl rfl (Nat.le_of_ble_eq_true rfl) dX6_writeOff_106 ⟨Nat.le_refl _, Nat.le_refl _⟩ (fun H locs hI => ?_)
    refine lv_goto (tgt := 115) hx hb dX6_writeOff_109 (by decide) ?_
    exact j115 z_106 x1 x2_103 x3 k4 hk4 _ _ _ h hI (lv_sub hl [1,2,0,3] rfl)
  have l4 : ∀ (x1 : Int32) (n : Nat) (H : Heap) (locs : List Loc) (ls : Array Slot) (z : bw_A1) (x2 : Int32) (x3 : Int32), lX6_writeOff_4 x1 n z x2 x3 = some (r, z') → bw_I G A s.heap (bw_mW cy a z rows asd sm buf bm th od om ow ca bo la pl to rd hh) H locs → lv_has ls 7 [(0, .ref (a 0)), (1, .int x1), (2, .int x2), (3, .int x3)] → W p l e (bw_rm 2 42) s m [.ref (a 0), .int p1].toArray below meth c H locs 0 0 Q (F0 m 4 ls []) := by
    intro x1 n
    induction n with
    | zero => intro H locs ls z x2 x3 h; exact bw_none h
    | succ n ih =>
      intro H locs ls z x2 x3 h hI hl
      have h : bX6_writeOff_4  (lX6_writeOff_4 x1 n) x1 z x2 x3 = some (r, z') := h
      unfold bX6_writeOff_4 at h
      refine lv_iload_n hx hb dX6_writeOff_4 rfl (lv_at hl 3 rfl) ?_
      refine lv_aload_n hx hb dX6_writeOff_5 rfl (lv_at hl 0 rfl) ?_
      refine bw_get S hK hI 0 0 rfl rfl (by decide) i_X6 f_X6_7 rfl dX6_writeOff_6 ?_
      refine lv_iconst (v := 1) hx hb dX6_writeOff_9 rfl ?_
      obtain ⟨v10, hv, h⟩ := bw_b1_e h
      refine bw_iald hx hb hK hI 1 hv rfl dX6_writeOff_10 ?_
      refine lv_icmp_ge (tgt := 118) hx hb dX6_writeOff_11 (by decide) (fun c_11 => ?_) (fun c_11 => ?_)
      · rw [if_pos c_11] at h
        refine lv_iload_n hx hb dX6_writeOff_118 rfl (lv_at hl 2 rfl) ?_
        subst hQ
        exact bw_iret (rr := (r, z')) S hr hlocks h (fun q : bw_A1 => (bw_mW cy a q rows asd sm buf bm th od om ow ca bo la pl to rd hh)) hI rfl dX6_writeOff_119
      rw [if_neg c_11] at h
      refine lv_aload_n hx hb dX6_writeOff_14 rfl (lv_at hl 0 rfl) ?_
      refine bw_get S hK hI 0 0 rfl rfl (by decide) i_X6 f_X6_7 rfl dX6_writeOff_15 ?_
      refine lv_iload_n hx hb dX6_writeOff_18 rfl (lv_at hl 3 rfl) ?_
      obtain ⟨r19, hc, h⟩ := bw_b1_e h
      refine bw_callP S hK hZ hI (mX6_loanAt l G cy g x3 r19 hc) Y_X6_loanAt V_X6_loanAt l_X6_50 ⟨(Nat.le_of_ble_eq_true rfl), (Nat.le_of_ble_eq_true rfl)⟩ (rest := [.ref (a 1)]) (st1 := [.int r19, .ref (a 1)]) rfl hl.1 rfl rfl (Nat.le_of_ble_eq_true rfl) dX6_writeOff_19 ⟨Nat.le_refl _, Nat.le_refl _⟩ (fun H locs hI => ?_)
      obtain ⟨v22, hv, h⟩ := bw_b1_e h
      refine bw_iald hx hb hK hI 1 hv rfl dX6_writeOff_22 ?_
      refine lv_istore (lv' := [(4, .int v22), (0, .ref (a 0)), (1, .int x1), (2, .int x2), (3, .int x3)]) hx hb dX6_writeOff_23 hl (by decide) rfl (fun ls hl => ?_)
      refine lv_aload_n hx hb dX6_writeOff_25 rfl (lv_at hl 1 rfl) ?_
      refine bw_get S hK hI 0 0 rfl rfl (by decide) i_X6 f_X6_7 rfl dX6_writeOff_26 ?_
      refine lv_iload_n hx hb dX6_writeOff_29 rfl (lv_at hl 4 rfl) ?_
      obtain ⟨r30, hc, h⟩ := bw_b1_e h
      refine bw_callP S hK hZ hI (mX6_loanAt l G cy g x3 r30 hc) Y_X6_loanAt V_X6_loanAt l_X6_50 ⟨(Nat.le_of_ble_eq_true rfl), (Nat.le_of_ble_eq_true rfl)⟩ (rest := [.ref (a 1)]) (st1 := [.int r30, .ref (a 1)]) rfl hl.1 rfl rfl (Nat.le_of_ble_eq_true rfl) dX6_writeOff_30 ⟨Nat.le_refl _, Nat.le_refl _⟩ (fun H locs hI => ?_)
      refine lv_iconst (v := 1) hx hb dX6_writeOff_33 rfl ?_
      refine lv_iadd hx hb dX6_writeOff_34 ?_
      obtain ⟨v35, hv, h⟩ := bw_b1_e h
      refine bw_iald hx hb hK hI 1 hv rfl dX6_writeOff_35 ?_
      refine lv_istore (lv' := [(5, .int v35), (4, .int v22), (0, .ref (a 0)), (1, .int x1), (2, .int x2), (3, .int x3)]) hx hb dX6_writeOff_36 hl (by decide) rfl (fun ls hl => ?_)
      refine lv_aload_n hx hb dX6_writeOff_38 rfl (lv_at hl 2 rfl) ?_
      refine bw_get S hK hI 0 0 rfl rfl (by decide) i_X6 f_X6_7 rfl dX6_writeOff_39 ?_
      refine lv_iload_n hx hb dX6_writeOff_42 rfl (lv_at hl 5 rfl) ?_
      obtain ⟨r43, hc, h⟩ := bw_b1_e h
      refine bw_callP S hK hZ hI (mX6_loanAt l G cy g x3 r43 hc) Y_X6_loanAt V_X6_loanAt l_X6_50 ⟨(Nat.le_of_ble_eq_true rfl), (Nat.le_of_ble_eq_true rfl)⟩ (rest := [.ref (a 1)]) (st1 := [.int r43, .ref (a 1)]) rfl hl.1 rfl rfl (Nat.le_of_ble_eq_true rfl) dX6_writeOff_43 ⟨Nat.le_refl _, Nat.le_refl _⟩ (fun H locs hI => ?_)
      refine lv_iconst (v := 2) hx hb dX6_writeOff_46 rfl ?_
      refine lv_iadd hx hb dX6_writeOff_47 ?_
      obtain ⟨v48, hv, h⟩ := bw_b1_e h
      refine bw_iald hx hb hK hI 1 hv rfl dX6_writeOff_48 ?_
      refine lv_istore (lv' := [(6, .int v48), (5, .int v35), (4, .int v22), (0, .ref (a 0)), (1, .int x1), (2, .int x2), (3, .int x3)]) hx hb dX6_writeOff_49 hl (by decide) rfl (fun ls hl => ?_)
      refine lv_iload hx hb dX6_writeOff_51 (lv_at hl 2 rfl) ?_
      refine lv_iload_n hx hb dX6_writeOff_53 rfl (lv_at hl 4 rfl) ?_
      refine lv_icmp_eq (tgt := 63) hx hb dX6_writeOff_54 (by decide) (fun c_54 => ?_) (fun c_54 => ?_)
      · rw [if_pos c_54] at h
        exact j63 z x1 x2 x3 v22 v35 v48 (lX6_writeOff_4 x1 n) ih _ _ _ h hI (lv_sub hl [3,4,5,6,2,1,0] rfl)
      rw [if_neg c_54] at h
      refine lv_iload hx hb dX6_writeOff_57 (lv_at hl 1 rfl) ?_
      refine lv_iload_n hx hb dX6_writeOff_59 rfl (lv_at hl 4 rfl) ?_
      refine lv_icmp_ne (tgt := 112) hx hb dX6_writeOff_60 (by decide) (fun c_60 => ?_) (fun c_60 => ?_)
      · rw [if_neg c_60] at h
        obtain ⟨x3_112, e_112⟩ : ∃ y : Int32, y = x3 + 1 := ⟨_, rfl⟩
        have h := bw_let_e h e_112
        refine lv_iinc (v := x3_112) (lv' := [(3, .int x3_112), (6, .int v48), (5, .int v35), (4, .int v22), (0, .ref (a 0)), (1, .int x1), (2, .int x2)]) hx hb dX6_writeOff_112 hl (k := 6) rfl (by rw [e_112]; rfl) (by decide) rfl (fun ls hl => ?_)
        clear e_112
        exact j115 z x1 x2 x3_112 (lX6_writeOff_4 x1 n) ih _ _ _ h hI (lv_sub hl [4,5,6,0] rfl)
      rw [if_pos c_60] at h
      exact j63 z x1 x2 x3 v22 v35 v48 (lX6_writeOff_4 x1 n) ih _ _ _ h hI (lv_sub hl [3,4,5,6,2,1,0] rfl)
  unfold fX6_writeOff at h
  refine lv_iconst (v := 0) hx hb dX6_writeOff_0 rfl ?_
  refine lv_istore_n (lv' := [(2, .int 0), (0, .ref (a 0)), (1, .int p1)]) hx hb dX6_writeOff_1 rfl hl (by decide) rfl (fun ls hl => ?_)
  refine lv_iconst (v := 0) hx hb dX6_writeOff_2 rfl ?_
  refine lv_istore_n (lv' := [(3, .int 0), (2, .int 0), (0, .ref (a 0)), (1, .int p1)]) hx hb dX6_writeOff_3 rfl hl (by decide) rfl (fun ls hl => ?_)
  exact l4 p1 bw_fu _ _ _ z 0 0 h hI (lv_sub hl [2,3,1,0] rfl)
set_option maxHeartbeats 4000000 in
set_option maxRecDepth 100000 in
theorem mX6_close (l : Launch) (G : va_G) (cy : Nat → ClassId) (g : Nat) (a : Nat → Nat) (z : bw_A1) (rows : bw_A1) (asd : bw_A1) (sm : Int32) (buf : bw_A1) (bm : Int32) (th : Int32) (od : bw_A1) (om : Int32) (ow : Int32) (ca : Int32) (bo : Int32) (la : Int32) (pl : Int32) (to : Int32) (rd : bw_A1) (hh : Int64) (p1 : Int32) (r : Int32) (z' : bw_A1) (rows' : bw_A1) (sm' : Int32) (th' : Int32) (h : fX6_close z rows sm th p1 = some (r, z', rows', sm', th')) : bw_M l yX6_close cX6_close 3 (some .int) 4 90 G cy g [.ref (a 0), .int p1] (bw_mW cy a z rows asd sm buf bm th od om ow ca bo la pl to rd hh) (some (.int r)) (bw_mW cy a z' rows' asd sm' buf bm th' od om ow ca bo la pl to rd hh) := by
  refine bw_ofW (by decide +kernel) RX6 rfl (Nat.le_of_ble_eq_true rfl) ?_
  intro p e s m below meth c ls S hr hlocks hK hZ hI hl
  have hx := S.1
  have hb := S.2.1
  have hown := S.2.2.2.1
  have hts := S.2.2.2.2
  generalize va_A _ s.heap.size = A at hI hZ ⊢
  generalize hQ : MQ below _ _ s 0 0 A = Q
  have hl : lv_has ls 3 [(0, .ref (a 0)), (1, .int p1)] := hl
  have j35 : ∀ (z : bw_A1) (rows : bw_A1) (sm : Int32) (th : Int32) (H : Heap) (locs : List Loc) (ls : Array Slot), jX6_close_35 z rows sm th = some (r, z', rows', sm', th') → bw_I G A s.heap (bw_mW cy a z rows asd sm buf bm th od om ow ca bo la pl to rd hh) H locs → lv_has ls 3 [(0, .ref (a 0))] → W p l e (bw_rm 4 90) s m [.ref (a 0), .int p1].toArray below meth c H locs 0 0 Q (F0 m 35 ls []) := by
    intro z rows sm th H locs ls h hI hl
    unfold jX6_close_35 at h
    refine lv_aload_n hx hb dX6_close_35 rfl (lv_at hl 0 rfl) ?_
    refine lv_iconst (v := 2) hx hb dX6_close_36 rfl ?_
    obtain ⟨r37, th_37, hc, h⟩ := bw_b2_e h
    refine bw_callV S hK hZ hI (mX6_fails l G cy g a z rows asd sm buf bm th od om ow ca bo la pl to rd hh 2 r37 th_37 hc) Y_X6_fails V_X6_fails l_X6_114 ⟨(Nat.le_of_ble_eq_true rfl), (Nat.le_of_ble_eq_true rfl)⟩ (q0 := 0) rfl rfl rfl (ws' := (bw_mW cy a z rows asd sm buf bm th_37 od om ow ca bo la pl to rd hh)) (bw_pS _) (bw_pS' _) rfl rfl hl.1 (rest := []) (st1 := [.int r37]) rfl rfl (Nat.le_of_ble_eq_true rfl) dX6_close_37 ⟨Nat.le_refl _, Nat.le_refl _⟩ (fun H locs hI => ?_)
    subst hQ
    exact bw_iret (rr := (r, z', rows', sm', th')) S hr hlocks h (fun q : (bw_A1 × bw_A1 × Int32 × Int32) => (bw_mW cy a q.1 q.2.1 asd q.2.2.1 buf bm q.2.2.2 od om ow ca bo la pl to rd hh)) hI rfl dX6_close_40
  unfold fX6_close at h
  refine lv_aload_n hx hb dX6_close_0 rfl (lv_at hl 0 rfl) ?_
  refine lv_iconst (v := 0) hx hb dX6_close_1 rfl ?_
  refine bw_put S hK hI 0 6 (ws' := (bw_mW cy a z rows asd sm buf bm 0 od om ow ca bo la pl to rd hh)) tyX6 tyX6_ok nmX6 rfl rfl (by decide) i_X6 f_X6_28 rfl rfl rfl rfl (Nat.le_of_ble_eq_true rfl) rfl dX6_close_2 (fun H locs hI => ?_)
  refine lv_aload_n hx hb dX6_close_5 rfl (lv_at hl 0 rfl) ?_
  refine lv_iload_n hx hb dX6_close_6 rfl (lv_at hl 1 rfl) ?_
  obtain ⟨r7, hc, h⟩ := bw_b1_e h
  refine bw_callV S hK hZ hI (mX6_isProject l G cy g a z rows asd sm buf bm 0 od om ow ca bo la pl to rd hh p1 r7 hc) Y_X6_isProject V_X6_isProject l_X6_123 ⟨(Nat.le_of_ble_eq_true rfl), (Nat.le_of_ble_eq_true rfl)⟩ (q0 := 0) rfl rfl rfl (ws' := (bw_mW cy a z rows asd sm buf bm 0 od om ow ca bo la pl to rd hh)) (bw_pS _) (bw_pS' _) rfl rfl hl.1 (rest := []) (st1 := [.int r7]) rfl rfl (Nat.le_of_ble_eq_true rfl) dX6_close_7 ⟨Nat.le_refl _, Nat.le_refl _⟩ (fun H locs hI => ?_)
  refine lv_if_ne (tgt := 19) hx hb dX6_close_10 (by decide) (fun c_10 => ?_) (fun c_10 => ?_)
  · rw [if_neg c_10] at h
    refine lv_aload_n hx hb dX6_close_19 rfl (lv_at hl 0 rfl) ?_
    refine lv_iload_n hx hb dX6_close_20 rfl (lv_at hl 1 rfl) ?_
    obtain ⟨r21, hc, h⟩ := bw_b1_e h
    refine bw_callV S hK hZ hI (mX6_isOpen l G cy g a z rows asd sm buf bm 0 od om ow ca bo la pl to rd hh p1 r21 hc) Y_X6_isOpen V_X6_isOpen l_X6_43 ⟨(Nat.le_of_ble_eq_true rfl), (Nat.le_of_ble_eq_true rfl)⟩ (q0 := 0) rfl rfl rfl (ws' := (bw_mW cy a z rows asd sm buf bm 0 od om ow ca bo la pl to rd hh)) (bw_pS _) (bw_pS' _) rfl rfl hl.1 (rest := []) (st1 := [.int r21]) rfl rfl (Nat.le_of_ble_eq_true rfl) dX6_close_21 ⟨Nat.le_refl _, Nat.le_refl _⟩ (fun H locs hI => ?_)
    refine lv_if_eq (tgt := 35) hx hb dX6_close_24 (by decide) (fun c_24 => ?_) (fun c_24 => ?_)
    · rw [if_pos c_24] at h
      exact j35 z rows sm 0 _ _ _ h hI (lv_sub hl [0] rfl)
    rw [if_neg c_24] at h
    refine lv_aload_n hx hb dX6_close_27 rfl (lv_at hl 0 rfl) ?_
    refine lv_iload_n hx hb dX6_close_28 rfl (lv_at hl 1 rfl) ?_
    obtain ⟨r29, hc, h⟩ := bw_b1_e h
    refine bw_callV S hK hZ hI (mX6_hasNext l G cy g a z rows asd sm buf bm 0 od om ow ca bo la pl to rd hh p1 r29 hc) Y_X6_hasNext V_X6_hasNext l_X6_47 ⟨(Nat.le_of_ble_eq_true rfl), (Nat.le_of_ble_eq_true rfl)⟩ (q0 := 0) rfl rfl rfl (ws' := (bw_mW cy a z rows asd sm buf bm 0 od om ow ca bo la pl to rd hh)) (bw_pS _) (bw_pS' _) rfl rfl hl.1 (rest := []) (st1 := [.int r29]) rfl rfl (Nat.le_of_ble_eq_true rfl) dX6_close_29 ⟨Nat.le_refl _, Nat.le_refl _⟩ (fun H locs hI => ?_)
    refine lv_if_eq (tgt := 41) hx hb dX6_close_32 (by decide) (fun c_32 => ?_) (fun c_32 => ?_)
    · rw [if_pos c_32] at h
      refine lv_aload_n hx hb dX6_close_41 rfl (lv_at hl 0 rfl) ?_
      obtain ⟨rows_42, sm_42, hc, h⟩ := bw_b2_e h
      refine bw_callV S hK hZ hI (mX6_save l G cy g a z rows asd sm buf bm 0 od om ow ca bo la pl to rd hh rows_42 sm_42 hc) Y_X6_save V_X6_save l_X6_117 ⟨(Nat.le_of_ble_eq_true rfl), (Nat.le_of_ble_eq_true rfl)⟩ (q0 := 0) rfl rfl rfl (ws' := (bw_mW cy a z rows_42 asd sm_42 buf bm 0 od om ow ca bo la pl to rd hh)) (bw_pS _) (bw_pS' _) rfl rfl hl.1 (rest := []) (st1 := []) rfl rfl (Nat.le_of_ble_eq_true rfl) dX6_close_42 ⟨Nat.le_refl _, Nat.le_refl _⟩ (fun H locs hI => ?_)
      refine lv_aload_n hx hb dX6_close_45 rfl (lv_at hl 0 rfl) ?_
      refine lv_iload_n hx hb dX6_close_46 rfl (lv_at hl 1 rfl) ?_
      refine lv_aload_n hx hb dX6_close_47 rfl (lv_at hl 0 rfl) ?_
      refine bw_get S hK hI 0 0 rfl rfl (by decide) i_X6 f_X6_7 rfl dX6_close_48 ?_
      refine lv_iload_n hx hb dX6_close_51 rfl (lv_at hl 1 rfl) ?_
      obtain ⟨r52, hc, h⟩ := bw_b1_e h
      refine bw_callP S hK hZ hI (mX6_at l G cy g p1 r52 hc) Y_X6_at V_X6_at l_X6_39 ⟨(Nat.le_of_ble_eq_true rfl), (Nat.le_of_ble_eq_true rfl)⟩ (rest := [.ref (a 1), .int p1, .ref (a 0)]) (st1 := [.int r52, .ref (a 1), .int p1, .ref (a 0)]) rfl hl.1 rfl rfl (Nat.le_of_ble_eq_true rfl) dX6_close_52 ⟨Nat.le_refl _, Nat.le_refl _⟩ (fun H locs hI => ?_)
      refine lv_iconst (v := 2) hx hb dX6_close_55 rfl ?_
      refine lv_iadd hx hb dX6_close_56 ?_
      obtain ⟨v57, hv, h⟩ := bw_b1_e h
      refine bw_iald hx hb hK hI 1 hv rfl dX6_close_57 ?_
      obtain ⟨z_58, hc, h⟩ := bw_b1_e h
      refine bw_callV S hK hZ hI (mX6_payAll l G cy g a z rows_42 asd sm_42 buf bm 0 od om ow ca bo la pl to rd hh p1 v57 z_58 hc) Y_X6_payAll V_X6_payAll l_X6_108 ⟨(Nat.le_of_ble_eq_true rfl), (Nat.le_of_ble_eq_true rfl)⟩ (q0 := 0) rfl rfl rfl (ws' := (bw_mW cy a z_58 rows_42 asd sm_42 buf bm 0 od om ow ca bo la pl to rd hh)) (bw_pS _) (bw_pS' _) rfl rfl hl.1 (rest := []) (st1 := []) rfl rfl (Nat.le_of_ble_eq_true rfl) dX6_close_58 ⟨Nat.le_refl _, Nat.le_refl _⟩ (fun H locs hI => ?_)
      refine lv_aload_n hx hb dX6_close_61 rfl (lv_at hl 0 rfl) ?_
      refine lv_iload_n hx hb dX6_close_62 rfl (lv_at hl 1 rfl) ?_
      obtain ⟨r63, z_63, hc, h⟩ := bw_b2_e h
      refine bw_callV S hK hZ hI (mX6_writeOff l G cy g a z_58 rows_42 asd sm_42 buf bm 0 od om ow ca bo la pl to rd hh p1 r63 z_63 hc) Y_X6_writeOff V_X6_writeOff l_X6_138 ⟨(Nat.le_of_ble_eq_true rfl), (Nat.le_of_ble_eq_true rfl)⟩ (q0 := 0) rfl rfl rfl (ws' := (bw_mW cy a z_63 rows_42 asd sm_42 buf bm 0 od om ow ca bo la pl to rd hh)) (bw_pS _) (bw_pS' _) rfl rfl hl.1 (rest := []) (st1 := [.int r63]) rfl rfl (Nat.le_of_ble_eq_true rfl) dX6_close_63 ⟨Nat.le_refl _, Nat.le_refl _⟩ (fun H locs hI => ?_)
      refine lv_istore_n (lv' := [(2, .int r63), (0, .ref (a 0)), (1, .int p1)]) hx hb dX6_close_66 rfl hl (by decide) rfl (fun ls hl => ?_)
      refine lv_aload_n hx hb dX6_close_67 rfl (lv_at hl 1 rfl) ?_
      refine bw_get S hK hI 0 0 rfl rfl (by decide) i_X6 f_X6_7 rfl dX6_close_68 ?_
      refine lv_iload_n hx hb dX6_close_71 rfl (lv_at hl 2 rfl) ?_
      obtain ⟨r72, hc, h⟩ := bw_b1_e h
      refine bw_callP S hK hZ hI (mX6_at l G cy g p1 r72 hc) Y_X6_at V_X6_at l_X6_39 ⟨(Nat.le_of_ble_eq_true rfl), (Nat.le_of_ble_eq_true rfl)⟩ (rest := [.ref (a 1)]) (st1 := [.int r72, .ref (a 1)]) rfl hl.1 rfl rfl (Nat.le_of_ble_eq_true rfl) dX6_close_72 ⟨Nat.le_refl _, Nat.le_refl _⟩ (fun H locs hI => ?_)
      refine lv_bipush (v := 7) hx hb dX6_close_75 (by decide) ?_
      refine lv_iadd hx hb dX6_close_77 ?_
      refine lv_iconst (v := 0) hx hb dX6_close_78 rfl ?_
      obtain ⟨z_79, hv, h⟩ := bw_b1_e h
      refine bw_iast hx hb hK hI 1 (ws' := (bw_mW cy a z_79 rows_42 asd sm_42 buf bm 0 od om ow ca bo la pl to rd hh)) hv rfl rfl dX6_close_79 (fun H locs hI => ?_)
      refine lv_aload_n hx hb dX6_close_80 rfl (lv_at hl 1 rfl) ?_
      refine bw_get S hK hI 0 0 rfl rfl (by decide) i_X6 f_X6_7 rfl dX6_close_81 ?_
      refine lv_iconst (v := 2) hx hb dX6_close_84 rfl ?_
      refine lv_dup2_11 hx hb dX6_close_85 rfl rfl ?_
      obtain ⟨v86, hv, h⟩ := bw_b1_e h
      refine bw_iald hx hb hK hI 1 hv rfl dX6_close_86 ?_
      refine lv_iload_n hx hb dX6_close_87 rfl (lv_at hl 0 rfl) ?_
      refine lv_iadd hx hb dX6_close_88 ?_
      obtain ⟨z_89, hv, h⟩ := bw_b1_e h
      refine bw_iast hx hb hK hI 1 (ws' := (bw_mW cy a z_89 rows_42 asd sm_42 buf bm 0 od om ow ca bo la pl to rd hh)) hv rfl rfl dX6_close_89 (fun H locs hI => ?_)
      refine lv_iload_n hx hb dX6_close_90 rfl (lv_at hl 0 rfl) ?_
      subst hQ
      exact bw_iret (rr := (r, z', rows', sm', th')) S hr hlocks h (fun q : (bw_A1 × bw_A1 × Int32 × Int32) => (bw_mW cy a q.1 q.2.1 asd q.2.2.1 buf bm q.2.2.2 od om ow ca bo la pl to rd hh)) hI rfl dX6_close_91
    rw [if_neg c_32] at h
    exact j35 z rows sm 0 _ _ _ h hI (lv_sub hl [0] rfl)
  rw [if_pos c_10] at h
  refine lv_aload_n hx hb dX6_close_13 rfl (lv_at hl 0 rfl) ?_
  refine lv_iconst (v := 1) hx hb dX6_close_14 rfl ?_
  obtain ⟨r15, th_15, hc, h⟩ := bw_b2_e h
  refine bw_callV S hK hZ hI (mX6_fails l G cy g a z rows asd sm buf bm 0 od om ow ca bo la pl to rd hh 1 r15 th_15 hc) Y_X6_fails V_X6_fails l_X6_114 ⟨(Nat.le_of_ble_eq_true rfl), (Nat.le_of_ble_eq_true rfl)⟩ (q0 := 0) rfl rfl rfl (ws' := (bw_mW cy a z rows asd sm buf bm th_15 od om ow ca bo la pl to rd hh)) (bw_pS _) (bw_pS' _) rfl rfl hl.1 (rest := []) (st1 := [.int r15]) rfl rfl (Nat.le_of_ble_eq_true rfl) dX6_close_15 ⟨Nat.le_refl _, Nat.le_refl _⟩ (fun H locs hI => ?_)
  subst hQ
  exact bw_iret (rr := (r, z', rows', sm', th')) S hr hlocks h (fun q : (bw_A1 × bw_A1 × Int32 × Int32) => (bw_mW cy a q.1 q.2.1 asd q.2.2.1 buf bm q.2.2.2 od om ow ca bo la pl to rd hh)) hI rfl dX6_close_18
set_option maxHeartbeats 4000000 in
set_option maxRecDepth 100000 in
theorem mX6_append (l : Launch) (G : va_G) (cy : Nat → ClassId) (g : Nat) (a : Nat → Nat) (z : bw_A1) (rows : bw_A1) (asd : bw_A1) (sm : Int32) (buf : bw_A1) (bm : Int32) (th : Int32) (od : bw_A1) (om : Int32) (ow : Int32) (ca : Int32) (bo : Int32) (la : Int32) (pl : Int32) (to : Int32) (rd : bw_A1) (hh : Int64) (p1 : Int32) (r : Int32) (buf' : bw_A1) (bm' : Int32) (th' : Int32) (h : fX6_append buf bm th p1 = some (r, buf', bm', th')) : bw_M l yX6_append cX6_append 2 (some .int) 1 22 G cy g [.ref (a 0), .int p1] (bw_mW cy a z rows asd sm buf bm th od om ow ca bo la pl to rd hh) (some (.int r)) (bw_mW cy a z rows asd sm buf' bm' th' od om ow ca bo la pl to rd hh) := by
  refine bw_ofW (by decide +kernel) RX6 rfl (Nat.le_of_ble_eq_true rfl) ?_
  intro p e s m below meth c ls S hr hlocks hK hZ hI hl
  have hx := S.1
  have hb := S.2.1
  have hown := S.2.2.2.1
  have hts := S.2.2.2.2
  generalize va_A _ s.heap.size = A at hI hZ ⊢
  generalize hQ : MQ below _ _ s 0 0 A = Q
  have hl : lv_has ls 2 [(0, .ref (a 0)), (1, .int p1)] := hl
  unfold fX6_append at h
  refine lv_aload_n hx hb dX6_append_0 rfl (lv_at hl 0 rfl) ?_
  refine lv_iconst (v := 0) hx hb dX6_append_1 rfl ?_
  refine bw_put S hK hI 0 6 (ws' := (bw_mW cy a z rows asd sm buf bm 0 od om ow ca bo la pl to rd hh)) tyX6 tyX6_ok nmX6 rfl rfl (by decide) i_X6 f_X6_28 rfl rfl rfl rfl (Nat.le_of_ble_eq_true rfl) rfl dX6_append_2 (fun H locs hI => ?_)
  refine lv_iload_n hx hb dX6_append_5 rfl (lv_at hl 1 rfl) ?_
  refine lv_bipush (v := 33) hx hb dX6_append_6 (by decide) ?_
  refine lv_bipush (v := 126) hx hb dX6_append_8 (by decide) ?_
  obtain ⟨r10, hc, h⟩ := bw_b1_e h
  refine bw_callP S hK hZ hI (mX6_in l G cy g p1 33 126 r10 hc) Y_X6_in V_X6_in l_X6_35 ⟨(Nat.le_of_ble_eq_true rfl), (Nat.le_of_ble_eq_true rfl)⟩ (rest := []) (st1 := [.int r10]) rfl hl.1 rfl rfl (Nat.le_of_ble_eq_true rfl) dX6_append_10 ⟨Nat.le_refl _, Nat.le_refl _⟩ (fun H locs hI => ?_)
  refine lv_if_ne (tgt := 22) hx hb dX6_append_13 (by decide) (fun c_13 => ?_) (fun c_13 => ?_)
  · rw [if_neg c_13] at h
    refine lv_aload_n hx hb dX6_append_22 rfl (lv_at hl 0 rfl) ?_
    refine bw_get S hK hI 0 5 rfl rfl (by decide) i_X6 f_X6_141 rfl dX6_append_23 ?_
    refine lv_bipush (v := 60) hx hb dX6_append_26 (by decide) ?_
    refine lv_icmp_ne (tgt := 37) hx hb dX6_append_28 (by decide) (fun c_28 => ?_) (fun c_28 => ?_)
    · rw [if_neg c_28] at h
      refine lv_aload_n hx hb dX6_append_37 rfl (lv_at hl 0 rfl) ?_
      refine bw_get S hK hI 0 4 rfl rfl (by decide) i_X6 f_X6_19 rfl dX6_append_38 ?_
      refine lv_aload_n hx hb dX6_append_41 rfl (lv_at hl 0 rfl) ?_
      refine bw_get S hK hI 0 5 rfl rfl (by decide) i_X6 f_X6_141 rfl dX6_append_42 ?_
      refine lv_iload_n hx hb dX6_append_45 rfl (lv_at hl 1 rfl) ?_
      obtain ⟨buf_46, hv, h⟩ := bw_b1_e h
      refine bw_iast hx hb hK hI 4 (ws' := (bw_mW cy a z rows asd sm buf_46 bm 0 od om ow ca bo la pl to rd hh)) hv rfl rfl dX6_append_46 (fun H locs hI => ?_)
      refine lv_aload_n hx hb dX6_append_47 rfl (lv_at hl 0 rfl) ?_
      refine lv_dup hx hb dX6_append_48 rfl ?_
      refine bw_get S hK hI 0 5 rfl rfl (by decide) i_X6 f_X6_141 rfl dX6_append_49 ?_
      refine lv_iconst (v := 1) hx hb dX6_append_52 rfl ?_
      refine lv_iadd hx hb dX6_append_53 ?_
      refine lv_topi (fun bm_54 e_54 => ?_)
      have h := bw_let_e h e_54
      clear e_54
      refine bw_put S hK hI 0 5 (ws' := (bw_mW cy a z rows asd sm buf_46 bm_54 0 od om ow ca bo la pl to rd hh)) tyX6 tyX6_ok nmX6 rfl rfl (by decide) i_X6 f_X6_141 rfl rfl rfl rfl (Nat.le_of_ble_eq_true rfl) rfl dX6_append_54 (fun H locs hI => ?_)
      refine lv_aload_n hx hb dX6_append_57 rfl (lv_at hl 0 rfl) ?_
      refine bw_get S hK hI 0 5 rfl rfl (by decide) i_X6 f_X6_141 rfl dX6_append_58 ?_
      subst hQ
      exact bw_iret (rr := (r, buf', bm', th')) S hr hlocks h (fun q : (bw_A1 × Int32 × Int32) => (bw_mW cy a z rows asd sm q.1 q.2.1 q.2.2 od om ow ca bo la pl to rd hh)) hI rfl dX6_append_61
    rw [if_pos c_28] at h
    refine lv_aload_n hx hb dX6_append_31 rfl (lv_at hl 0 rfl) ?_
    refine lv_iconst (v := 2) hx hb dX6_append_32 rfl ?_
    obtain ⟨r33, th_33, hc, h⟩ := bw_b2_e h
    refine bw_callV S hK hZ hI (mX6_fails l G cy g a z rows asd sm buf bm 0 od om ow ca bo la pl to rd hh 2 r33 th_33 hc) Y_X6_fails V_X6_fails l_X6_114 ⟨(Nat.le_of_ble_eq_true rfl), (Nat.le_of_ble_eq_true rfl)⟩ (q0 := 0) rfl rfl rfl (ws' := (bw_mW cy a z rows asd sm buf bm th_33 od om ow ca bo la pl to rd hh)) (bw_pS _) (bw_pS' _) rfl rfl hl.1 (rest := []) (st1 := [.int r33]) rfl rfl (Nat.le_of_ble_eq_true rfl) dX6_append_33 ⟨Nat.le_refl _, Nat.le_refl _⟩ (fun H locs hI => ?_)
    subst hQ
    exact bw_iret (rr := (r, buf', bm', th')) S hr hlocks h (fun q : (bw_A1 × Int32 × Int32) => (bw_mW cy a z rows asd sm q.1 q.2.1 q.2.2 od om ow ca bo la pl to rd hh)) hI rfl dX6_append_36
  rw [if_pos c_13] at h
  refine lv_aload_n hx hb dX6_append_16 rfl (lv_at hl 0 rfl) ?_
  refine lv_iconst (v := 1) hx hb dX6_append_17 rfl ?_
  obtain ⟨r18, th_18, hc, h⟩ := bw_b2_e h
  refine bw_callV S hK hZ hI (mX6_fails l G cy g a z rows asd sm buf bm 0 od om ow ca bo la pl to rd hh 1 r18 th_18 hc) Y_X6_fails V_X6_fails l_X6_114 ⟨(Nat.le_of_ble_eq_true rfl), (Nat.le_of_ble_eq_true rfl)⟩ (q0 := 0) rfl rfl rfl (ws' := (bw_mW cy a z rows asd sm buf bm th_18 od om ow ca bo la pl to rd hh)) (bw_pS _) (bw_pS' _) rfl rfl hl.1 (rest := []) (st1 := [.int r18]) rfl rfl (Nat.le_of_ble_eq_true rfl) dX6_append_18 ⟨Nat.le_refl _, Nat.le_refl _⟩ (fun H locs hI => ?_)
  subst hQ
  exact bw_iret (rr := (r, buf', bm', th')) S hr hlocks h (fun q : (bw_A1 × Int32 × Int32) => (bw_mW cy a z rows asd sm q.1 q.2.1 q.2.2 od om ow ca bo la pl to rd hh)) hI rfl dX6_append_21
set_option maxHeartbeats 4000000 in
set_option maxRecDepth 100000 in
theorem mX6_clearBuffer (l : Launch) (G : va_G) (cy : Nat → ClassId) (g : Nat) (a : Nat → Nat) (z : bw_A1) (rows : bw_A1) (asd : bw_A1) (sm : Int32) (buf : bw_A1) (bm : Int32) (th : Int32) (od : bw_A1) (om : Int32) (ow : Int32) (ca : Int32) (bo : Int32) (la : Int32) (pl : Int32) (to : Int32) (rd : bw_A1) (hh : Int64) (r : Int32) (bm' : Int32) (th' : Int32) (h : fX6_clearBuffer bm th = some (r, bm', th')) : bw_M l yX6_clearBuffer cX6_clearBuffer 2 (some .int) 0 0 G cy g [.ref (a 0)] (bw_mW cy a z rows asd sm buf bm th od om ow ca bo la pl to rd hh) (some (.int r)) (bw_mW cy a z rows asd sm buf bm' th' od om ow ca bo la pl to rd hh) := by
  refine bw_ofW (by decide +kernel) RX6 rfl (Nat.le_of_ble_eq_true rfl) ?_
  intro p e s m below meth c ls S hr hlocks hK hZ hI hl
  have hx := S.1
  have hb := S.2.1
  have hown := S.2.2.2.1
  have hts := S.2.2.2.2
  generalize va_A _ s.heap.size = A at hI hZ ⊢
  generalize hQ : MQ below _ _ s 0 0 A = Q
  have hl : lv_has ls 2 [(0, .ref (a 0))] := hl
  unfold fX6_clearBuffer at h
  refine lv_aload_n hx hb dX6_clearBuffer_0 rfl (lv_at hl 0 rfl) ?_
  refine lv_iconst (v := 0) hx hb dX6_clearBuffer_1 rfl ?_
  refine bw_put S hK hI 0 6 (ws' := (bw_mW cy a z rows asd sm buf bm 0 od om ow ca bo la pl to rd hh)) tyX6 tyX6_ok nmX6 rfl rfl (by decide) i_X6 f_X6_28 rfl rfl rfl rfl (Nat.le_of_ble_eq_true rfl) rfl dX6_clearBuffer_2 (fun H locs hI => ?_)
  refine lv_aload_n hx hb dX6_clearBuffer_5 rfl (lv_at hl 0 rfl) ?_
  refine bw_get S hK hI 0 5 rfl rfl (by decide) i_X6 f_X6_141 rfl dX6_clearBuffer_6 ?_
  refine lv_istore_n (lv' := [(1, .int bm), (0, .ref (a 0))]) hx hb dX6_clearBuffer_9 rfl hl (by decide) rfl (fun ls hl => ?_)
  refine lv_aload_n hx hb dX6_clearBuffer_10 rfl (lv_at hl 1 rfl) ?_
  refine lv_iconst (v := 0) hx hb dX6_clearBuffer_11 rfl ?_
  refine bw_put S hK hI 0 5 (ws' := (bw_mW cy a z rows asd sm buf 0 0 od om ow ca bo la pl to rd hh)) tyX6 tyX6_ok nmX6 rfl rfl (by decide) i_X6 f_X6_141 rfl rfl rfl rfl (Nat.le_of_ble_eq_true rfl) rfl dX6_clearBuffer_12 (fun H locs hI => ?_)
  refine lv_iload_n hx hb dX6_clearBuffer_15 rfl (lv_at hl 0 rfl) ?_
  subst hQ
  exact bw_iret (rr := (r, bm', th')) S hr hlocks h (fun q : (Int32 × Int32) => (bw_mW cy a z rows asd sm buf q.1 q.2 od om ow ca bo la pl to rd hh)) hI rfl dX6_clearBuffer_16
set_option maxHeartbeats 4000000 in
set_option maxRecDepth 100000 in
theorem mX6_next (l : Launch) (G : va_G) (cy : Nat → ClassId) (g : Nat) (a : Nat → Nat) (z : bw_A1) (rows : bw_A1) (asd : bw_A1) (sm : Int32) (buf : bw_A1) (bm : Int32) (th : Int32) (od : bw_A1) (om : Int32) (ow : Int32) (ca : Int32) (bo : Int32) (la : Int32) (pl : Int32) (to : Int32) (rd : bw_A1) (hh : Int64) (r : Int32) (h : fX6_next buf bm pl = some r) : bw_M l yX6_next cX6_next 1 (some .int) 0 0 G cy g [.ref (a 0)] (bw_mW cy a z rows asd sm buf bm th od om ow ca bo la pl to rd hh) (some (.int r)) (bw_mW cy a z rows asd sm buf bm th od om ow ca bo la pl to rd hh) := by
  refine bw_ofW (by decide +kernel) RX6 rfl (Nat.le_of_ble_eq_true rfl) ?_
  intro p e s m below meth c ls S hr hlocks hK hZ hI hl
  have hx := S.1
  have hb := S.2.1
  have hown := S.2.2.2.1
  have hts := S.2.2.2.2
  generalize va_A _ s.heap.size = A at hI hZ ⊢
  generalize hQ : MQ below _ _ s 0 0 A = Q
  have hl : lv_has ls 1 [(0, .ref (a 0))] := hl
  unfold fX6_next at h
  refine lv_aload_n hx hb dX6_next_0 rfl (lv_at hl 0 rfl) ?_
  refine bw_get S hK hI 0 13 rfl rfl (by decide) i_X6 f_X6_144 rfl dX6_next_1 ?_
  refine lv_aload_n hx hb dX6_next_4 rfl (lv_at hl 0 rfl) ?_
  refine bw_get S hK hI 0 5 rfl rfl (by decide) i_X6 f_X6_141 rfl dX6_next_5 ?_
  refine lv_icmp_ge (tgt := 23) hx hb dX6_next_8 (by decide) (fun c_8 => ?_) (fun c_8 => ?_)
  · rw [if_pos c_8] at h
    refine lv_iconst (v := 0) hx hb dX6_next_23 rfl ?_
    subst hQ
    exact bw_iretP S hr hlocks h hI rfl dX6_next_24
  rw [if_neg c_8] at h
  refine lv_aload_n hx hb dX6_next_11 rfl (lv_at hl 0 rfl) ?_
  refine bw_get S hK hI 0 4 rfl rfl (by decide) i_X6 f_X6_19 rfl dX6_next_12 ?_
  refine lv_aload_n hx hb dX6_next_15 rfl (lv_at hl 0 rfl) ?_
  refine bw_get S hK hI 0 13 rfl rfl (by decide) i_X6 f_X6_144 rfl dX6_next_16 ?_
  obtain ⟨v19, hv, h⟩ := bw_b1_e h
  refine bw_iald hx hb hK hI 4 hv rfl dX6_next_19 ?_
  refine lv_goto (tgt := 24) hx hb dX6_next_20 (by decide) ?_
  subst hQ
  exact bw_iretP S hr hlocks h hI rfl dX6_next_24
set_option maxHeartbeats 4000000 in
set_option maxRecDepth 100000 in
theorem mX6_takes (l : Launch) (G : va_G) (cy : Nat → ClassId) (g : Nat) (a : Nat → Nat) (z : bw_A1) (rows : bw_A1) (asd : bw_A1) (sm : Int32) (buf : bw_A1) (bm : Int32) (th : Int32) (od : bw_A1) (om : Int32) (ow : Int32) (ca : Int32) (bo : Int32) (la : Int32) (pl : Int32) (to : Int32) (rd : bw_A1) (hh : Int64) (p1 : Int32) (r : Int32) (pl' : Int32) (h : fX6_takes buf bm pl p1 = some (r, pl')) : bw_M l yX6_takes cX6_takes 3 (some .boolean) 1 20 G cy g [.ref (a 0), .int p1] (bw_mW cy a z rows asd sm buf bm th od om ow ca bo la pl to rd hh) (some (.int r)) (bw_mW cy a z rows asd sm buf bm th od om ow ca bo la pl' to rd hh) := by
  refine bw_ofW (by decide +kernel) RX6 rfl (Nat.le_of_ble_eq_true rfl) ?_
  intro p e s m below meth c ls S hr hlocks hK hZ hI hl
  have hx := S.1
  have hb := S.2.1
  have hown := S.2.2.2.1
  have hts := S.2.2.2.2
  generalize va_A _ s.heap.size = A at hI hZ ⊢
  generalize hQ : MQ below _ _ s 0 0 A = Q
  have hl : lv_has ls 3 [(0, .ref (a 0)), (1, .int p1)] := hl
  have j28 : ∀ (pl : Int32) (x2 : Int32) (s0 : Int32) (s1 : Int32) (H : Heap) (locs : List Loc) (ls : Array Slot), jX6_takes_28 buf bm pl x2 s0 s1 = some (r, pl') → bw_I G A s.heap (bw_mW cy a z rows asd sm buf bm th od om ow ca bo la pl to rd hh) H locs → lv_has ls 3 [(2, .int x2)] → W p l e (bw_rm 1 20) s m [.ref (a 0), .int p1].toArray below meth c H locs 0 0 Q (F0 m 28 ls [.int s0, .int s1, .ref (a 0)]) := by
    intro pl x2 s0 s1 H locs ls h hI hl
    unfold jX6_takes_28 at h
    refine lv_iadd hx hb dX6_takes_28 ?_
    refine lv_topi (fun pl_29 e_29 => ?_)
    have h := bw_let_e h e_29
    clear e_29
    refine bw_put S hK hI 0 13 (ws' := (bw_mW cy a z rows asd sm buf bm th od om ow ca bo la pl_29 to rd hh)) tyX6 tyX6_ok nmX6 rfl rfl (by decide) i_X6 f_X6_144 rfl rfl rfl rfl (Nat.le_of_ble_eq_true rfl) rfl dX6_takes_29 (fun H locs hI => ?_)
    refine lv_iload_n hx hb dX6_takes_32 rfl (lv_at hl 0 rfl) ?_
    subst hQ
    obtain ⟨h9, h⟩ := bw_bool_e h
    exact bw_iret (rr := (r, pl')) S hr hlocks h (fun q : Int32 => (bw_mW cy a z rows asd sm buf bm th od om ow ca bo la q to rd hh)) hI h9 dX6_takes_33
  have j13 : ∀ (pl : Int32) (s0 : Int32) (H : Heap) (locs : List Loc) (ls : Array Slot), jX6_takes_13 buf bm pl s0 = some (r, pl') → bw_I G A s.heap (bw_mW cy a z rows asd sm buf bm th od om ow ca bo la pl to rd hh) H locs → lv_has ls 3 [(0, .ref (a 0))] → W p l e (bw_rm 1 20) s m [.ref (a 0), .int p1].toArray below meth c H locs 0 0 Q (F0 m 13 ls [.int s0]) := by
    intro pl s0 H locs ls h hI hl
    unfold jX6_takes_13 at h
    refine lv_istore_n (lv' := [(2, .int s0), (0, .ref (a 0))]) hx hb dX6_takes_13 rfl hl (by decide) rfl (fun ls hl => ?_)
    refine lv_aload_n hx hb dX6_takes_14 rfl (lv_at hl 1 rfl) ?_
    refine lv_dup hx hb dX6_takes_15 rfl ?_
    refine bw_get S hK hI 0 13 rfl rfl (by decide) i_X6 f_X6_144 rfl dX6_takes_16 ?_
    refine lv_iload_n hx hb dX6_takes_19 rfl (lv_at hl 0 rfl) ?_
    refine lv_if_eq (tgt := 27) hx hb dX6_takes_20 (by decide) (fun c_20 => ?_) (fun c_20 => ?_)
    · rw [if_pos c_20] at h
      refine lv_iconst (v := 0) hx hb dX6_takes_27 rfl ?_
      exact j28 pl s0 0 pl _ _ _ h hI (lv_sub hl [0] rfl)
    rw [if_neg c_20] at h
    refine lv_iconst (v := 1) hx hb dX6_takes_23 rfl ?_
    refine lv_goto (tgt := 28) hx hb dX6_takes_24 (by decide) ?_
    exact j28 pl s0 1 pl _ _ _ h hI (lv_sub hl [0] rfl)
  unfold fX6_takes at h
  refine lv_aload_n hx hb dX6_takes_0 rfl (lv_at hl 0 rfl) ?_
  obtain ⟨r1, hc, h⟩ := bw_b1_e h
  refine bw_callV S hK hZ hI (mX6_next l G cy g a z rows asd sm buf bm th od om ow ca bo la pl to rd hh r1 hc) Y_X6_next V_X6_next l_X6_147 ⟨(Nat.le_of_ble_eq_true rfl), (Nat.le_of_ble_eq_true rfl)⟩ (q0 := 0) rfl rfl rfl (ws' := (bw_mW cy a z rows asd sm buf bm th od om ow ca bo la pl to rd hh)) (bw_pS _) (bw_pS' _) rfl rfl hl.1 (rest := []) (st1 := [.int r1]) rfl rfl (Nat.le_of_ble_eq_true rfl) dX6_takes_1 ⟨Nat.le_refl _, Nat.le_refl _⟩ (fun H locs hI => ?_)
  refine lv_iload_n hx hb dX6_takes_4 rfl (lv_at hl 1 rfl) ?_
  refine lv_icmp_ne (tgt := 12) hx hb dX6_takes_5 (by decide) (fun c_5 => ?_) (fun c_5 => ?_)
  · rw [if_neg c_5] at h
    refine lv_iconst (v := 0) hx hb dX6_takes_12 rfl ?_
    exact j13 pl 0 _ _ _ h hI (lv_sub hl [0] rfl)
  rw [if_pos c_5] at h
  refine lv_iconst (v := 1) hx hb dX6_takes_8 rfl ?_
  refine lv_goto (tgt := 13) hx hb dX6_takes_9 (by decide) ?_
  exact j13 pl 1 _ _ _ h hI (lv_sub hl [0] rfl)
set_option maxHeartbeats 4000000 in
set_option maxRecDepth 100000 in
theorem mX6_number (l : Launch) (G : va_G) (cy : Nat → ClassId) (g : Nat) (a : Nat → Nat) (z : bw_A1) (rows : bw_A1) (asd : bw_A1) (sm : Int32) (buf : bw_A1) (bm : Int32) (th : Int32) (od : bw_A1) (om : Int32) (ow : Int32) (ca : Int32) (bo : Int32) (la : Int32) (pl : Int32) (to : Int32) (rd : bw_A1) (hh : Int64) (p1 : Int32) (p2 : Int32) (r : Int32) (pl' : Int32) (h : fX6_number buf bm pl p1 p2 = some (r, pl')) : bw_M l yX6_number cX6_number 7 (some .int) 1 22 G cy g [.ref (a 0), .int p1, .int p2] (bw_mW cy a z rows asd sm buf bm th od om ow ca bo la pl to rd hh) (some (.int r)) (bw_mW cy a z rows asd sm buf bm th od om ow ca bo la pl' to rd hh) := by
  refine bw_ofW (by decide +kernel) RX6 rfl (Nat.le_of_ble_eq_true rfl) ?_
  intro p e s m below meth c ls S hr hlocks hK hZ hI hl
  have hx := S.1
  have hb := S.2.1
  have hown := S.2.2.2.1
  have hts := S.2.2.2.2
  generalize va_A _ s.heap.size = A at hI hZ ⊢
  generalize hQ : MQ below _ _ s 0 0 A = Q
  have hl : lv_has ls 7 [(0, .ref (a 0)), (1, .int p1), (2, .int p2)] := hl
  have j97 : ∀ (pl : Int32) (x1 : Int32) (x2 : Int32) (x3 : Int32) (x4 : Int32) (s0 : Int32) (s1 : Int32) (k5 : Int32 → Int32 → Int32 → Option (Int32 × Int32)) (hk5 : ∀ (H : Heap) (locs : List Loc) (ls : Array Slot) (pl_ : Int32) (x3_ : Int32) (x4_ : Int32), k5 pl_ x3_ x4_ = some (r, pl') → bw_I G A s.heap (bw_mW cy a z rows asd sm buf bm th od om ow ca bo la pl_ to rd hh) H locs → lv_has ls 7 [(0, .ref (a 0)), (1, .int x1), (2, .int x2), (3, .int x3_), (4, .int x4_)] → W p l e (bw_rm 1 22) s m [.ref (a 0), .int p1, .int p2].toArray below meth c H locs 0 0 Q (F0 m 5 ls [])) (H : Heap) (locs : List Loc) (ls : Array Slot), jX6_number_97 k5 buf bm pl x1 x2 x3 x4 s0 s1 = some (r, pl') → bw_I G A s.heap (bw_mW cy a z rows asd sm buf bm th od om ow ca bo la pl to rd hh) H locs → lv_has ls 7 [(0, .ref (a 0)), (1, .int x1), (2, .int x2), (3, .int x3), (4, .int x4)] → W p l e (bw_rm 1 22) s m [.ref (a 0), .int p1, .int p2].toArray below meth c H locs 0 0 Q (F0 m 97 ls [.int s0, .int s1, .ref (a 0)]) := by
    intro pl x1 x2 x3 x4 s0 s1 k5 hk5 H locs ls h hI hl
    unfold jX6_number_97 at h
    refine lv_iadd hx hb dX6_number_97 ?_
    refine lv_topi (fun pl_98 e_98 => ?_)
    have h := bw_let_e h e_98
    clear e_98
    refine bw_put S hK hI 0 13 (ws' := (bw_mW cy a z rows asd sm buf bm th od om ow ca bo la pl_98 to rd hh)) tyX6 tyX6_ok nmX6 rfl rfl (by decide) i_X6 f_X6_144 rfl rfl rfl rfl (Nat.le_of_ble_eq_true rfl) rfl dX6_number_98 (fun H locs hI => ?_)
    refine lv_goto (tgt := 5) hx hb dX6_number_101 (by decide) ?_
    exact hk5 _ _ _ pl_98 x3 x4 h hI (lv_sub hl [0,1,2,3,4] rfl)
  have j81 : ∀ (pl : Int32) (x1 : Int32) (x2 : Int32) (x4 : Int32) (s0 : Int32) (k5 : Int32 → Int32 → Int32 → Option (Int32 × Int32)) (hk5 : ∀ (H : Heap) (locs : List Loc) (ls : Array Slot) (pl_ : Int32) (x3_ : Int32) (x4_ : Int32), k5 pl_ x3_ x4_ = some (r, pl') → bw_I G A s.heap (bw_mW cy a z rows asd sm buf bm th od om ow ca bo la pl_ to rd hh) H locs → lv_has ls 7 [(0, .ref (a 0)), (1, .int x1), (2, .int x2), (3, .int x3_), (4, .int x4_)] → W p l e (bw_rm 1 22) s m [.ref (a 0), .int p1, .int p2].toArray below meth c H locs 0 0 Q (F0 m 5 ls [])) (H : Heap) (locs : List Loc) (ls : Array Slot), jX6_number_81 k5 buf bm pl x1 x2 x4 s0 = some (r, pl') → bw_I G A s.heap (bw_mW cy a z rows asd sm buf bm th od om ow ca bo la pl to rd hh) H locs → lv_has ls 7 [(0, .ref (a 0)), (1, .int x1), (2, .int x2), (4, .int x4)] → W p l e (bw_rm 1 22) s m [.ref (a 0), .int p1, .int p2].toArray below meth c H locs 0 0 Q (F0 m 81 ls [.int s0]) := by
    intro pl x1 x2 x4 s0 k5 hk5 H locs ls h hI hl
    unfold jX6_number_81 at h
    refine lv_istore_n (lv' := [(3, .int s0), (0, .ref (a 0)), (1, .int x1), (2, .int x2), (4, .int x4)]) hx hb dX6_number_81 rfl hl (by decide) rfl (fun ls hl => ?_)
    refine lv_aload_n hx hb dX6_number_82 rfl (lv_at hl 1 rfl) ?_
    refine lv_dup hx hb dX6_number_83 rfl ?_
    refine bw_get S hK hI 0 13 rfl rfl (by decide) i_X6 f_X6_144 rfl dX6_number_84 ?_
    refine lv_iload hx hb dX6_number_87 (lv_at hl 4 rfl) ?_
    refine lv_if_eq (tgt := 96) hx hb dX6_number_89 (by decide) (fun c_89 => ?_) (fun c_89 => ?_)
    · rw [if_pos c_89] at h
      refine lv_iconst (v := 0) hx hb dX6_number_96 rfl ?_
      exact j97 pl x1 x2 s0 x4 0 pl k5 hk5 _ _ _ h hI (lv_sub hl [1,2,3,0,4] rfl)
    rw [if_neg c_89] at h
    refine lv_iconst (v := 1) hx hb dX6_number_92 rfl ?_
    refine lv_goto (tgt := 97) hx hb dX6_number_93 (by decide) ?_
    exact j97 pl x1 x2 s0 x4 1 pl k5 hk5 _ _ _ h hI (lv_sub hl [1,2,3,0,4] rfl)
  have j68 : ∀ (pl : Int32) (x1 : Int32) (x2 : Int32) (x3 : Int32) (x6 : Int32) (s0 : Int32) (k5 : Int32 → Int32 → Int32 → Option (Int32 × Int32)) (hk5 : ∀ (H : Heap) (locs : List Loc) (ls : Array Slot) (pl_ : Int32) (x3_ : Int32) (x4_ : Int32), k5 pl_ x3_ x4_ = some (r, pl') → bw_I G A s.heap (bw_mW cy a z rows asd sm buf bm th od om ow ca bo la pl_ to rd hh) H locs → lv_has ls 7 [(0, .ref (a 0)), (1, .int x1), (2, .int x2), (3, .int x3_), (4, .int x4_)] → W p l e (bw_rm 1 22) s m [.ref (a 0), .int p1, .int p2].toArray below meth c H locs 0 0 Q (F0 m 5 ls [])) (H : Heap) (locs : List Loc) (ls : Array Slot), jX6_number_68 k5 buf bm pl x1 x2 x3 x6 s0 = some (r, pl') → bw_I G A s.heap (bw_mW cy a z rows asd sm buf bm th od om ow ca bo la pl to rd hh) H locs → lv_has ls 7 [(0, .ref (a 0)), (1, .int x1), (2, .int x2), (3, .int x3), (6, .int x6)] → W p l e (bw_rm 1 22) s m [.ref (a 0), .int p1, .int p2].toArray below meth c H locs 0 0 Q (F0 m 68 ls [.int s0]) := by
    intro pl x1 x2 x3 x6 s0 k5 hk5 H locs ls h hI hl
    unfold jX6_number_68 at h
    refine lv_istore (lv' := [(4, .int s0), (0, .ref (a 0)), (1, .int x1), (2, .int x2), (3, .int x3), (6, .int x6)]) hx hb dX6_number_68 hl (by decide) rfl (fun ls hl => ?_)
    refine lv_iload hx hb dX6_number_70 (lv_at hl 0 rfl) ?_
    refine lv_if_eq (tgt := 80) hx hb dX6_number_72 (by decide) (fun c_72 => ?_) (fun c_72 => ?_)
    · rw [if_pos c_72] at h
      refine lv_iload_n hx hb dX6_number_80 rfl (lv_at hl 4 rfl) ?_
      exact j81 pl x1 x2 s0 x3 k5 hk5 _ _ _ h hI (lv_sub hl [1,2,3,0] rfl)
    rw [if_neg c_72] at h
    refine lv_iload hx hb dX6_number_75 (lv_at hl 5 rfl) ?_
    refine lv_goto (tgt := 81) hx hb dX6_number_77 (by decide) ?_
    exact j81 pl x1 x2 s0 x6 k5 hk5 _ _ _ h hI (lv_sub hl [1,2,3,0] rfl)
  have j67 : ∀ (pl : Int32) (x1 : Int32) (x2 : Int32) (x3 : Int32) (x6 : Int32) (k5 : Int32 → Int32 → Int32 → Option (Int32 × Int32)) (hk5 : ∀ (H : Heap) (locs : List Loc) (ls : Array Slot) (pl_ : Int32) (x3_ : Int32) (x4_ : Int32), k5 pl_ x3_ x4_ = some (r, pl') → bw_I G A s.heap (bw_mW cy a z rows asd sm buf bm th od om ow ca bo la pl_ to rd hh) H locs → lv_has ls 7 [(0, .ref (a 0)), (1, .int x1), (2, .int x2), (3, .int x3_), (4, .int x4_)] → W p l e (bw_rm 1 22) s m [.ref (a 0), .int p1, .int p2].toArray below meth c H locs 0 0 Q (F0 m 5 ls [])) (H : Heap) (locs : List Loc) (ls : Array Slot), jX6_number_67 k5 buf bm pl x1 x2 x3 x6 = some (r, pl') → bw_I G A s.heap (bw_mW cy a z rows asd sm buf bm th od om ow ca bo la pl to rd hh) H locs → lv_has ls 7 [(0, .ref (a 0)), (1, .int x1), (2, .int x2), (3, .int x3), (6, .int x6)] → W p l e (bw_rm 1 22) s m [.ref (a 0), .int p1, .int p2].toArray below meth c H locs 0 0 Q (F0 m 67 ls []) := by
    intro pl x1 x2 x3 x6 k5 hk5 H locs ls h hI hl
    unfold jX6_number_67 at h
    refine lv_iconst (v := 0) hx hb dX6_number_67 rfl ?_
    exact j68 pl x1 x2 x3 x6 0 k5 hk5 _ _ _ h hI (lv_sub hl [0,1,2,3,4] rfl)
  have j36 : ∀ (pl : Int32) (x1 : Int32) (x2 : Int32) (x3 : Int32) (x5 : Int32) (s0 : Int32) (k5 : Int32 → Int32 → Int32 → Option (Int32 × Int32)) (hk5 : ∀ (H : Heap) (locs : List Loc) (ls : Array Slot) (pl_ : Int32) (x3_ : Int32) (x4_ : Int32), k5 pl_ x3_ x4_ = some (r, pl') → bw_I G A s.heap (bw_mW cy a z rows asd sm buf bm th od om ow ca bo la pl_ to rd hh) H locs → lv_has ls 7 [(0, .ref (a 0)), (1, .int x1), (2, .int x2), (3, .int x3_), (4, .int x4_)] → W p l e (bw_rm 1 22) s m [.ref (a 0), .int p1, .int p2].toArray below meth c H locs 0 0 Q (F0 m 5 ls [])) (H : Heap) (locs : List Loc) (ls : Array Slot), jX6_number_36 k5 buf bm pl x1 x2 x3 x5 s0 = some (r, pl') → bw_I G A s.heap (bw_mW cy a z rows asd sm buf bm th od om ow ca bo la pl to rd hh) H locs → lv_has ls 7 [(0, .ref (a 0)), (1, .int x1), (2, .int x2), (3, .int x3), (5, .int x5)] → W p l e (bw_rm 1 22) s m [.ref (a 0), .int p1, .int p2].toArray below meth c H locs 0 0 Q (F0 m 36 ls [.int s0]) := by
    intro pl x1 x2 x3 x5 s0 k5 hk5 H locs ls h hI hl
    unfold jX6_number_36 at h
    refine lv_istore (lv' := [(6, .int s0), (0, .ref (a 0)), (1, .int x1), (2, .int x2), (3, .int x3), (5, .int x5)]) hx hb dX6_number_36 hl (by decide) rfl (fun ls hl => ?_)
    refine lv_iload hx hb dX6_number_38 (lv_at hl 5 rfl) ?_
    refine lv_iconst (v := 0) hx hb dX6_number_40 rfl ?_
    refine lv_bipush (v := 9) hx hb dX6_number_41 (by decide) ?_
    obtain ⟨r43, hc, h⟩ := bw_b1_e h
    refine bw_callP S hK hZ hI (mX6_in l G cy g x5 0 9 r43 hc) Y_X6_in V_X6_in l_X6_35 ⟨(Nat.le_of_ble_eq_true rfl), (Nat.le_of_ble_eq_true rfl)⟩ (rest := []) (st1 := [.int r43]) rfl hl.1 rfl rfl (Nat.le_of_ble_eq_true rfl) dX6_number_43 ⟨Nat.le_refl _, Nat.le_refl _⟩ (fun H locs hI => ?_)
    refine lv_if_eq (tgt := 67) hx hb dX6_number_46 (by decide) (fun c_46 => ?_) (fun c_46 => ?_)
    · rw [if_pos c_46] at h
      exact j67 pl x1 x2 x3 s0 k5 hk5 _ _ _ h hI (lv_sub hl [1,2,3,4,0] rfl)
    rw [if_neg c_46] at h
    refine lv_iload_n hx hb dX6_number_49 rfl (lv_at hl 4 rfl) ?_
    refine lv_if_eq (tgt := 67) hx hb dX6_number_50 (by decide) (fun c_50 => ?_) (fun c_50 => ?_)
    · rw [if_pos c_50] at h
      exact j67 pl x1 x2 x3 s0 k5 hk5 _ _ _ h hI (lv_sub hl [1,2,3,4,0] rfl)
    rw [if_neg c_50] at h
    refine lv_iload hx hb dX6_number_53 (lv_at hl 0 rfl) ?_
    refine lv_iload_n hx hb dX6_number_55 rfl (lv_at hl 2 rfl) ?_
    refine lv_iload_n hx hb dX6_number_56 rfl (lv_at hl 3 rfl) ?_
    obtain ⟨r57, hc, h⟩ := bw_b1_e h
    refine bw_callP S hK hZ hI (mX6_in l G cy g s0 x1 x2 r57 hc) Y_X6_in V_X6_in l_X6_35 ⟨(Nat.le_of_ble_eq_true rfl), (Nat.le_of_ble_eq_true rfl)⟩ (rest := []) (st1 := [.int r57]) rfl hl.1 rfl rfl (Nat.le_of_ble_eq_true rfl) dX6_number_57 ⟨Nat.le_refl _, Nat.le_refl _⟩ (fun H locs hI => ?_)
    refine lv_if_eq (tgt := 67) hx hb dX6_number_60 (by decide) (fun c_60 => ?_) (fun c_60 => ?_)
    · rw [if_pos c_60] at h
      exact j67 pl x1 x2 x3 s0 k5 hk5 _ _ _ h hI (lv_sub hl [1,2,3,4,0] rfl)
    rw [if_neg c_60] at h
    refine lv_iconst (v := 1) hx hb dX6_number_63 rfl ?_
    refine lv_goto (tgt := 68) hx hb dX6_number_64 (by decide) ?_
    exact j68 pl x1 x2 x3 s0 1 k5 hk5 _ _ _ h hI (lv_sub hl [1,2,3,4,0] rfl)
  have l5 : ∀ (x1 : Int32) (x2 : Int32) (n : Nat) (H : Heap) (locs : List Loc) (ls : Array Slot) (pl : Int32) (x3 : Int32) (x4 : Int32), lX6_number_5 buf bm x1 x2 n pl x3 x4 = some (r, pl') → bw_I G A s.heap (bw_mW cy a z rows asd sm buf bm th od om ow ca bo la pl to rd hh) H locs → lv_has ls 7 [(0, .ref (a 0)), (1, .int x1), (2, .int x2), (3, .int x3), (4, .int x4)] → W p l e (bw_rm 1 22) s m [.ref (a 0), .int p1, .int p2].toArray below meth c H locs 0 0 Q (F0 m 5 ls []) := by
    intro x1 x2 n
    induction n with
    | zero => intro H locs ls pl x3 x4 h; exact bw_none h
    | succ n ih =>
      intro H locs ls pl x3 x4 h hI hl
      have h : bX6_number_5  (lX6_number_5 buf bm x1 x2 n) buf bm x1 x2 pl x3 x4 = some (r, pl') := h
      unfold bX6_number_5 at h
      refine lv_iload hx hb dX6_number_5 (lv_at hl 4 rfl) ?_
      refine lv_if_eq (tgt := 104) hx hb dX6_number_7 (by decide) (fun c_7 => ?_) (fun c_7 => ?_)
      · rw [if_pos c_7] at h
        refine lv_iload_n hx hb dX6_number_104 rfl (lv_at hl 3 rfl) ?_
        subst hQ
        exact bw_iret (rr := (r, pl')) S hr hlocks h (fun q : Int32 => (bw_mW cy a z rows asd sm buf bm th od om ow ca bo la q to rd hh)) hI rfl dX6_number_105
      rw [if_neg c_7] at h
      refine lv_aload_n hx hb dX6_number_10 rfl (lv_at hl 0 rfl) ?_
      obtain ⟨r11, hc, h⟩ := bw_b1_e h
      refine bw_callV S hK hZ hI (mX6_next l G cy g a z rows asd sm buf bm th od om ow ca bo la pl to rd hh r11 hc) Y_X6_next V_X6_next l_X6_147 ⟨(Nat.le_of_ble_eq_true rfl), (Nat.le_of_ble_eq_true rfl)⟩ (q0 := 0) rfl rfl rfl (ws' := (bw_mW cy a z rows asd sm buf bm th od om ow ca bo la pl to rd hh)) (bw_pS _) (bw_pS' _) rfl rfl hl.1 (rest := []) (st1 := [.int r11]) rfl rfl (Nat.le_of_ble_eq_true rfl) dX6_number_11 ⟨Nat.le_refl _, Nat.le_refl _⟩ (fun H locs hI => ?_)
      refine lv_bipush (v := 48) hx hb dX6_number_14 (by decide) ?_
      refine lv_isub hx hb dX6_number_16 ?_
      refine lv_topi (fun x5_17 e_17 => ?_)
      have h := bw_let_e h e_17
      clear e_17
      refine lv_istore (lv' := [(5, .int x5_17), (0, .ref (a 0)), (1, .int x1), (2, .int x2), (3, .int x3), (4, .int x4)]) hx hb dX6_number_17 hl (by decide) rfl (fun ls hl => ?_)
      refine lv_iload_n hx hb dX6_number_19 rfl (lv_at hl 4 rfl) ?_
      refine lv_iconst (v := (-1)) hx hb dX6_number_20 rfl ?_
      refine lv_icmp_ne (tgt := 29) hx hb dX6_number_21 (by decide) (fun c_21 => ?_) (fun c_21 => ?_)
      · rw [if_neg c_21] at h
        refine lv_bipush (v := 10) hx hb dX6_number_29 (by decide) ?_
        refine lv_iload_n hx hb dX6_number_31 rfl (lv_at hl 4 rfl) ?_
        refine lv_imul hx hb dX6_number_32 ?_
        refine lv_iload hx hb dX6_number_33 (lv_at hl 0 rfl) ?_
        refine lv_iadd hx hb dX6_number_35 ?_
        exact j36 pl x1 x2 x3 x5_17 ((10 * x3) + x5_17) (lX6_number_5 buf bm x1 x2 n) ih _ _ _ h hI (lv_sub hl [1,2,3,4,0] rfl)
      rw [if_pos c_21] at h
      refine lv_iload hx hb dX6_number_24 (lv_at hl 0 rfl) ?_
      refine lv_goto (tgt := 36) hx hb dX6_number_26 (by decide) ?_
      exact j36 pl x1 x2 x3 x5_17 x5_17 (lX6_number_5 buf bm x1 x2 n) ih _ _ _ h hI (lv_sub hl [1,2,3,4,0] rfl)
  unfold fX6_number at h
  refine lv_iconst (v := (-1)) hx hb dX6_number_0 rfl ?_
  refine lv_istore_n (lv' := [(3, .int (-1)), (0, .ref (a 0)), (1, .int p1), (2, .int p2)]) hx hb dX6_number_1 rfl hl (by decide) rfl (fun ls hl => ?_)
  refine lv_iconst (v := 1) hx hb dX6_number_2 rfl ?_
  refine lv_istore (lv' := [(4, .int 1), (3, .int (-1)), (0, .ref (a 0)), (1, .int p1), (2, .int p2)]) hx hb dX6_number_3 hl (by decide) rfl (fun ls hl => ?_)
  exact l5 p1 p2 bw_fu _ _ _ pl (-1) 1 h hI (lv_sub hl [2,3,4,1,0] rfl)
set_option maxHeartbeats 4000000 in
set_option maxRecDepth 100000 in
theorem mX6_tasks (l : Launch) (G : va_G) (cy : Nat → ClassId) (g : Nat) (a : Nat → Nat) (z : bw_A1) (rows : bw_A1) (asd : bw_A1) (sm : Int32) (buf : bw_A1) (bm : Int32) (th : Int32) (od : bw_A1) (om : Int32) (ow : Int32) (ca : Int32) (bo : Int32) (la : Int32) (pl : Int32) (to : Int32) (rd : bw_A1) (hh : Int64) (p1 : Int32) (r : Int32) (pl' : Int32) (rd' : bw_A1) (h : fX6_tasks buf bm pl rd p1 = some (r, pl', rd')) : bw_M l yX6_tasks cX6_tasks 5 (some .boolean) 2 48 G cy g [.ref (a 0), .int p1] (bw_mW cy a z rows asd sm buf bm th od om ow ca bo la pl to rd hh) (some (.int r)) (bw_mW cy a z rows asd sm buf bm th od om ow ca bo la pl' to rd' hh) := by
  refine bw_ofW (by decide +kernel) RX6 rfl (Nat.le_of_ble_eq_true rfl) ?_
  intro p e s m below meth c ls S hr hlocks hK hZ hI hl
  have hx := S.1
  have hb := S.2.1
  have hown := S.2.2.2.1
  have hts := S.2.2.2.2
  generalize va_A _ s.heap.size = A at hI hZ ⊢
  generalize hQ : MQ below _ _ s 0 0 A = Q
  have hl : lv_has ls 5 [(0, .ref (a 0)), (1, .int p1)] := hl
  have j104 : ∀ (pl : Int32) (rd : bw_A1) (x1 : Int32) (x3 : Int32) (s0 : Int32) (k13 : Int32 → bw_A1 → Int32 → Int32 → Option (Int32 × Int32 × bw_A1)) (hk13 : ∀ (H : Heap) (locs : List Loc) (ls : Array Slot) (pl_ : Int32) (rd_ : bw_A1) (x2_ : Int32) (x3_ : Int32), k13 pl_ rd_ x2_ x3_ = some (r, pl', rd') → bw_I G A s.heap (bw_mW cy a z rows asd sm buf bm th od om ow ca bo la pl_ to rd_ hh) H locs → lv_has ls 5 [(0, .ref (a 0)), (1, .int x1), (2, .int x2_), (3, .int x3_)] → W p l e (bw_rm 2 48) s m [.ref (a 0), .int p1].toArray below meth c H locs 0 0 Q (F0 m 13 ls [])) (H : Heap) (locs : List Loc) (ls : Array Slot), jX6_tasks_104 k13 buf bm pl rd x1 x3 s0 = some (r, pl', rd') → bw_I G A s.heap (bw_mW cy a z rows asd sm buf bm th od om ow ca bo la pl to rd hh) H locs → lv_has ls 5 [(0, .ref (a 0)), (1, .int x1), (3, .int x3)] → W p l e (bw_rm 2 48) s m [.ref (a 0), .int p1].toArray below meth c H locs 0 0 Q (F0 m 104 ls [.int s0]) := by
    intro pl rd x1 x3 s0 k13 hk13 H locs ls h hI hl
    unfold jX6_tasks_104 at h
    refine lv_istore_n (lv' := [(2, .int s0), (0, .ref (a 0)), (1, .int x1), (3, .int x3)]) hx hb dX6_tasks_104 rfl hl (by decide) rfl (fun ls hl => ?_)
    refine lv_goto (tgt := 13) hx hb dX6_tasks_105 (by decide) ?_
    exact hk13 _ _ _ pl rd s0 x3 h hI (lv_sub hl [1,2,0,3] rfl)
  have j103 : ∀ (pl : Int32) (rd : bw_A1) (x1 : Int32) (x3 : Int32) (k13 : Int32 → bw_A1 → Int32 → Int32 → Option (Int32 × Int32 × bw_A1)) (hk13 : ∀ (H : Heap) (locs : List Loc) (ls : Array Slot) (pl_ : Int32) (rd_ : bw_A1) (x2_ : Int32) (x3_ : Int32), k13 pl_ rd_ x2_ x3_ = some (r, pl', rd') → bw_I G A s.heap (bw_mW cy a z rows asd sm buf bm th od om ow ca bo la pl_ to rd_ hh) H locs → lv_has ls 5 [(0, .ref (a 0)), (1, .int x1), (2, .int x2_), (3, .int x3_)] → W p l e (bw_rm 2 48) s m [.ref (a 0), .int p1].toArray below meth c H locs 0 0 Q (F0 m 13 ls [])) (H : Heap) (locs : List Loc) (ls : Array Slot), jX6_tasks_103 k13 buf bm pl rd x1 x3 = some (r, pl', rd') → bw_I G A s.heap (bw_mW cy a z rows asd sm buf bm th od om ow ca bo la pl to rd hh) H locs → lv_has ls 5 [(0, .ref (a 0)), (1, .int x1), (3, .int x3)] → W p l e (bw_rm 2 48) s m [.ref (a 0), .int p1].toArray below meth c H locs 0 0 Q (F0 m 103 ls []) := by
    intro pl rd x1 x3 k13 hk13 H locs ls h hI hl
    unfold jX6_tasks_103 at h
    refine lv_iconst (v := 0) hx hb dX6_tasks_103 rfl ?_
    exact j104 pl rd x1 x3 0 k13 hk13 _ _ _ h hI (lv_sub hl [0,1,2] rfl)
  have j73 : ∀ (pl : Int32) (rd : bw_A1) (x1 : Int32) (x3 : Int32) (k13 : Int32 → bw_A1 → Int32 → Int32 → Option (Int32 × Int32 × bw_A1)) (hk13 : ∀ (H : Heap) (locs : List Loc) (ls : Array Slot) (pl_ : Int32) (rd_ : bw_A1) (x2_ : Int32) (x3_ : Int32), k13 pl_ rd_ x2_ x3_ = some (r, pl', rd') → bw_I G A s.heap (bw_mW cy a z rows asd sm buf bm th od om ow ca bo la pl_ to rd_ hh) H locs → lv_has ls 5 [(0, .ref (a 0)), (1, .int x1), (2, .int x2_), (3, .int x3_)] → W p l e (bw_rm 2 48) s m [.ref (a 0), .int p1].toArray below meth c H locs 0 0 Q (F0 m 13 ls [])) (H : Heap) (locs : List Loc) (ls : Array Slot), jX6_tasks_73 k13 buf bm pl rd x1 x3 = some (r, pl', rd') → bw_I G A s.heap (bw_mW cy a z rows asd sm buf bm th od om ow ca bo la pl to rd hh) H locs → lv_has ls 5 [(0, .ref (a 0)), (1, .int x1), (3, .int x3)] → W p l e (bw_rm 2 48) s m [.ref (a 0), .int p1].toArray below meth c H locs 0 0 Q (F0 m 73 ls []) := by
    intro pl rd x1 x3 k13 hk13 H locs ls h hI hl
    unfold jX6_tasks_73 at h
    refine lv_iload_n hx hb dX6_tasks_73 rfl (lv_at hl 2 rfl) ?_
    refine lv_if_eq (tgt := 103) hx hb dX6_tasks_74 (by decide) (fun c_74 => ?_) (fun c_74 => ?_)
    · rw [if_pos c_74] at h
      exact j103 pl rd x1 x3 k13 hk13 _ _ _ h hI (lv_sub hl [0,1,2] rfl)
    rw [if_neg c_74] at h
    refine lv_aload_n hx hb dX6_tasks_77 rfl (lv_at hl 0 rfl) ?_
    refine bw_get S hK hI 0 15 rfl rfl (by decide) i_X6 f_X6_25 rfl dX6_tasks_78 ?_
    refine lv_iload_n hx hb dX6_tasks_81 rfl (lv_at hl 1 rfl) ?_
    refine lv_iconst (v := 2) hx hb dX6_tasks_82 rfl ?_
    refine lv_iadd hx hb dX6_tasks_83 ?_
    obtain ⟨v84, hv, h⟩ := bw_b1_e h
    refine bw_iald hx hb hK hI 6 hv rfl dX6_tasks_84 ?_
    refine lv_bipush (v := 8) hx hb dX6_tasks_85 (by decide) ?_
    refine lv_icmp_ge (tgt := 103) hx hb dX6_tasks_87 (by decide) (fun c_87 => ?_) (fun c_87 => ?_)
    · rw [if_pos c_87] at h
      exact j103 pl rd x1 x3 k13 hk13 _ _ _ h hI (lv_sub hl [0,1,2] rfl)
    rw [if_neg c_87] at h
    refine lv_aload_n hx hb dX6_tasks_90 rfl (lv_at hl 0 rfl) ?_
    refine lv_bipush (v := 43) hx hb dX6_tasks_91 (by decide) ?_
    obtain ⟨r93, pl_93, hc, h⟩ := bw_b2_e h
    refine bw_callV S hK hZ hI (mX6_takes l G cy g a z rows asd sm buf bm th od om ow ca bo la pl to rd hh 43 r93 pl_93 hc) Y_X6_takes V_X6_takes l_X6_154 ⟨(Nat.le_of_ble_eq_true rfl), (Nat.le_of_ble_eq_true rfl)⟩ (q0 := 0) rfl rfl rfl (ws' := (bw_mW cy a z rows asd sm buf bm th od om ow ca bo la pl_93 to rd hh)) (bw_pS _) (bw_pS' _) rfl rfl hl.1 (rest := []) (st1 := [.int r93]) rfl rfl (Nat.le_of_ble_eq_true rfl) dX6_tasks_93 ⟨Nat.le_refl _, Nat.le_refl _⟩ (fun H locs hI => ?_)
    refine lv_if_eq (tgt := 103) hx hb dX6_tasks_96 (by decide) (fun c_96 => ?_) (fun c_96 => ?_)
    · rw [if_pos c_96] at h
      exact j103 pl_93 rd x1 x3 k13 hk13 _ _ _ h hI (lv_sub hl [0,1,2] rfl)
    rw [if_neg c_96] at h
    refine lv_iconst (v := 1) hx hb dX6_tasks_99 rfl ?_
    refine lv_goto (tgt := 104) hx hb dX6_tasks_100 (by decide) ?_
    exact j104 pl_93 rd x1 x3 1 k13 hk13 _ _ _ h hI (lv_sub hl [0,1,2] rfl)
  have j37 : ∀ (pl : Int32) (rd : bw_A1) (x1 : Int32) (x4 : Int32) (s0 : Int32) (k13 : Int32 → bw_A1 → Int32 → Int32 → Option (Int32 × Int32 × bw_A1)) (hk13 : ∀ (H : Heap) (locs : List Loc) (ls : Array Slot) (pl_ : Int32) (rd_ : bw_A1) (x2_ : Int32) (x3_ : Int32), k13 pl_ rd_ x2_ x3_ = some (r, pl', rd') → bw_I G A s.heap (bw_mW cy a z rows asd sm buf bm th od om ow ca bo la pl_ to rd_ hh) H locs → lv_has ls 5 [(0, .ref (a 0)), (1, .int x1), (2, .int x2_), (3, .int x3_)] → W p l e (bw_rm 2 48) s m [.ref (a 0), .int p1].toArray below meth c H locs 0 0 Q (F0 m 13 ls [])) (H : Heap) (locs : List Loc) (ls : Array Slot), jX6_tasks_37 k13 buf bm pl rd x1 x4 s0 = some (r, pl', rd') → bw_I G A s.heap (bw_mW cy a z rows asd sm buf bm th od om ow ca bo la pl to rd hh) H locs → lv_has ls 5 [(0, .ref (a 0)), (1, .int x1), (4, .int x4)] → W p l e (bw_rm 2 48) s m [.ref (a 0), .int p1].toArray below meth c H locs 0 0 Q (F0 m 37 ls [.int s0]) := by
    intro pl rd x1 x4 s0 k13 hk13 H locs ls h hI hl
    unfold jX6_tasks_37 at h
    refine lv_istore_n (lv' := [(3, .int s0), (0, .ref (a 0)), (1, .int x1), (4, .int x4)]) hx hb dX6_tasks_37 rfl hl (by decide) rfl (fun ls hl => ?_)
    refine lv_iload_n hx hb dX6_tasks_38 rfl (lv_at hl 0 rfl) ?_
    refine lv_if_eq (tgt := 73) hx hb dX6_tasks_39 (by decide) (fun c_39 => ?_) (fun c_39 => ?_)
    · rw [if_pos c_39] at h
      exact j73 pl rd x1 s0 k13 hk13 _ _ _ h hI (lv_sub hl [1,2,0] rfl)
    rw [if_neg c_39] at h
    refine lv_aload_n hx hb dX6_tasks_42 rfl (lv_at hl 1 rfl) ?_
    refine bw_get S hK hI 0 15 rfl rfl (by decide) i_X6 f_X6_25 rfl dX6_tasks_43 ?_
    refine lv_iload_n hx hb dX6_tasks_46 rfl (lv_at hl 2 rfl) ?_
    refine lv_iconst (v := 3) hx hb dX6_tasks_47 rfl ?_
    refine lv_iadd hx hb dX6_tasks_48 ?_
    refine lv_aload_n hx hb dX6_tasks_49 rfl (lv_at hl 1 rfl) ?_
    refine bw_get S hK hI 0 15 rfl rfl (by decide) i_X6 f_X6_25 rfl dX6_tasks_50 ?_
    refine lv_iload_n hx hb dX6_tasks_53 rfl (lv_at hl 2 rfl) ?_
    refine lv_iconst (v := 2) hx hb dX6_tasks_54 rfl ?_
    refine lv_iadd hx hb dX6_tasks_55 ?_
    obtain ⟨v56, hv, h⟩ := bw_b1_e h
    refine bw_iald hx hb hK hI 6 hv rfl dX6_tasks_56 ?_
    refine lv_iadd hx hb dX6_tasks_57 ?_
    refine lv_iload hx hb dX6_tasks_58 (lv_at hl 3 rfl) ?_
    obtain ⟨rd_60, hv, h⟩ := bw_b1_e h
    refine bw_iast hx hb hK hI 6 (ws' := (bw_mW cy a z rows asd sm buf bm th od om ow ca bo la pl to rd_60 hh)) hv rfl rfl dX6_tasks_60 (fun H locs hI => ?_)
    refine lv_aload_n hx hb dX6_tasks_61 rfl (lv_at hl 1 rfl) ?_
    refine bw_get S hK hI 0 15 rfl rfl (by decide) i_X6 f_X6_25 rfl dX6_tasks_62 ?_
    refine lv_iload_n hx hb dX6_tasks_65 rfl (lv_at hl 2 rfl) ?_
    refine lv_iconst (v := 2) hx hb dX6_tasks_66 rfl ?_
    refine lv_iadd hx hb dX6_tasks_67 ?_
    refine lv_dup2_11 hx hb dX6_tasks_68 rfl rfl ?_
    obtain ⟨v69, hv, h⟩ := bw_b1_e h
    refine bw_iald hx hb hK hI 6 hv rfl dX6_tasks_69 ?_
    refine lv_iconst (v := 1) hx hb dX6_tasks_70 rfl ?_
    refine lv_iadd hx hb dX6_tasks_71 ?_
    obtain ⟨rd_72, hv, h⟩ := bw_b1_e h
    refine bw_iast hx hb hK hI 6 (ws' := (bw_mW cy a z rows asd sm buf bm th od om ow ca bo la pl to rd_72 hh)) hv rfl rfl dX6_tasks_72 (fun H locs hI => ?_)
    exact j73 pl rd_72 x1 s0 k13 hk13 _ _ _ h hI (lv_sub hl [1,2,0] rfl)
  have l13 : ∀ (x1 : Int32) (n : Nat) (H : Heap) (locs : List Loc) (ls : Array Slot) (pl : Int32) (rd : bw_A1) (x2 : Int32) (x3 : Int32), lX6_tasks_13 buf bm x1 n pl rd x2 x3 = some (r, pl', rd') → bw_I G A s.heap (bw_mW cy a z rows asd sm buf bm th od om ow ca bo la pl to rd hh) H locs → lv_has ls 5 [(0, .ref (a 0)), (1, .int x1), (2, .int x2), (3, .int x3)] → W p l e (bw_rm 2 48) s m [.ref (a 0), .int p1].toArray below meth c H locs 0 0 Q (F0 m 13 ls []) := by
    intro x1 n
    induction n with
    | zero => intro H locs ls pl rd x2 x3 h; exact bw_none h
    | succ n ih =>
      intro H locs ls pl rd x2 x3 h hI hl
      have h : bX6_tasks_13  (lX6_tasks_13 buf bm x1 n) buf bm x1 pl rd x2 x3 = some (r, pl', rd') := h
      unfold bX6_tasks_13 at h
      refine lv_iload_n hx hb dX6_tasks_13 rfl (lv_at hl 2 rfl) ?_
      refine lv_if_eq (tgt := 108) hx hb dX6_tasks_14 (by decide) (fun c_14 => ?_) (fun c_14 => ?_)
      · rw [if_pos c_14] at h
        refine lv_iload_n hx hb dX6_tasks_108 rfl (lv_at hl 3 rfl) ?_
        subst hQ
        obtain ⟨h9, h⟩ := bw_bool_e h
        exact bw_iret (rr := (r, pl', rd')) S hr hlocks h (fun q : (Int32 × bw_A1) => (bw_mW cy a z rows asd sm buf bm th od om ow ca bo la q.1 to q.2 hh)) hI h9 dX6_tasks_109
      rw [if_neg c_14] at h
      refine lv_aload_n hx hb dX6_tasks_17 rfl (lv_at hl 0 rfl) ?_
      refine lv_iconst (v := 1) hx hb dX6_tasks_18 rfl ?_
      refine lv_bipush (v := 60) hx hb dX6_tasks_19 (by decide) ?_
      obtain ⟨r21, pl_21, hc, h⟩ := bw_b2_e h
      refine bw_callV S hK hZ hI (mX6_number l G cy g a z rows asd sm buf bm th od om ow ca bo la pl to rd hh 1 60 r21 pl_21 hc) Y_X6_number V_X6_number l_X6_151 ⟨(Nat.le_of_ble_eq_true rfl), (Nat.le_of_ble_eq_true rfl)⟩ (q0 := 0) rfl rfl rfl (ws' := (bw_mW cy a z rows asd sm buf bm th od om ow ca bo la pl_21 to rd hh)) (bw_pS _) (bw_pS' _) rfl rfl hl.1 (rest := []) (st1 := [.int r21]) rfl rfl (Nat.le_of_ble_eq_true rfl) dX6_tasks_21 ⟨Nat.le_refl _, Nat.le_refl _⟩ (fun H locs hI => ?_)
      refine lv_istore (lv' := [(4, .int r21), (0, .ref (a 0)), (1, .int x1), (2, .int x2), (3, .int x3)]) hx hb dX6_tasks_24 hl (by decide) rfl (fun ls hl => ?_)
      refine lv_iload hx hb dX6_tasks_26 (lv_at hl 0 rfl) ?_
      refine lv_iconst (v := (-1)) hx hb dX6_tasks_28 rfl ?_
      refine lv_icmp_eq (tgt := 36) hx hb dX6_tasks_29 (by decide) (fun c_29 => ?_) (fun c_29 => ?_)
      · rw [if_pos c_29] at h
        refine lv_iconst (v := 0) hx hb dX6_tasks_36 rfl ?_
        exact j37 pl_21 rd x1 r21 0 (lX6_tasks_13 buf bm x1 n) ih _ _ _ h hI (lv_sub hl [1,2,0] rfl)
      rw [if_neg c_29] at h
      refine lv_iconst (v := 1) hx hb dX6_tasks_32 rfl ?_
      refine lv_goto (tgt := 37) hx hb dX6_tasks_33 (by decide) ?_
      exact j37 pl_21 rd x1 r21 1 (lX6_tasks_13 buf bm x1 n) ih _ _ _ h hI (lv_sub hl [1,2,0] rfl)
  unfold fX6_tasks at h
  refine lv_aload_n hx hb dX6_tasks_0 rfl (lv_at hl 0 rfl) ?_
  refine bw_get S hK hI 0 15 rfl rfl (by decide) i_X6 f_X6_25 rfl dX6_tasks_1 ?_
  refine lv_iload_n hx hb dX6_tasks_4 rfl (lv_at hl 1 rfl) ?_
  refine lv_iconst (v := 2) hx hb dX6_tasks_5 rfl ?_
  refine lv_iadd hx hb dX6_tasks_6 ?_
  refine lv_iconst (v := 0) hx hb dX6_tasks_7 rfl ?_
  obtain ⟨rd_8, hv, h⟩ := bw_b1_e h
  refine bw_iast hx hb hK hI 6 (ws' := (bw_mW cy a z rows asd sm buf bm th od om ow ca bo la pl to rd_8 hh)) hv rfl rfl dX6_tasks_8 (fun H locs hI => ?_)
  refine lv_iconst (v := 1) hx hb dX6_tasks_9 rfl ?_
  refine lv_istore_n (lv' := [(2, .int 1), (0, .ref (a 0)), (1, .int p1)]) hx hb dX6_tasks_10 rfl hl (by decide) rfl (fun ls hl => ?_)
  refine lv_iconst (v := 1) hx hb dX6_tasks_11 rfl ?_
  refine lv_istore_n (lv' := [(3, .int 1), (2, .int 1), (0, .ref (a 0)), (1, .int p1)]) hx hb dX6_tasks_12 rfl hl (by decide) rfl (fun ls hl => ?_)
  exact l13 p1 bw_fu _ _ _ pl rd_8 1 1 h hI (lv_sub hl [2,3,1,0] rfl)
set_option maxHeartbeats 4000000 in
set_option maxRecDepth 100000 in
theorem mX6_readProject (l : Launch) (G : va_G) (cy : Nat → ClassId) (g : Nat) (a : Nat → Nat) (z : bw_A1) (rows : bw_A1) (asd : bw_A1) (sm : Int32) (buf : bw_A1) (bm : Int32) (th : Int32) (od : bw_A1) (om : Int32) (ow : Int32) (ca : Int32) (bo : Int32) (la : Int32) (pl : Int32) (to : Int32) (rd : bw_A1) (hh : Int64) (r : Int32) (pl' : Int32) (to' : Int32) (rd' : bw_A1) (h : fX6_readProject buf bm pl to rd = some (r, pl', to', rd')) : bw_M l yX6_readProject cX6_readProject 2 (some .boolean) 3 72 G cy g [.ref (a 0)] (bw_mW cy a z rows asd sm buf bm th od om ow ca bo la pl to rd hh) (some (.int r)) (bw_mW cy a z rows asd sm buf bm th od om ow ca bo la pl' to' rd' hh) := by
  refine bw_ofW (by decide +kernel) RX6 rfl (Nat.le_of_ble_eq_true rfl) ?_
  intro p e s m below meth c ls S hr hlocks hK hZ hI hl
  have hx := S.1
  have hb := S.2.1
  have hown := S.2.2.2.1
  have hts := S.2.2.2.2
  generalize va_A _ s.heap.size = A at hI hZ ⊢
  generalize hQ : MQ below _ _ s 0 0 A = Q
  have hl : lv_has ls 2 [(0, .ref (a 0))] := hl
  have j20 : ∀ (pl : Int32) (to : Int32) (rd : bw_A1) (s0 : Int32) (s1 : Int32) (H : Heap) (locs : List Loc) (ls : Array Slot), jX6_readProject_20 buf bm pl to rd s0 s1 = some (r, pl', to', rd') → bw_I G A s.heap (bw_mW cy a z rows asd sm buf bm th od om ow ca bo la pl to rd hh) H locs → lv_has ls 2 [(0, .ref (a 0))] → W p l e (bw_rm 3 72) s m [.ref (a 0)].toArray below meth c H locs 0 0 Q (F0 m 20 ls [.int s0, .int s1]) := by
    intro pl to rd s0 s1 H locs ls h hI hl
    unfold jX6_readProject_20 at h
    refine lv_imul hx hb dX6_readProject_20 ?_
    refine lv_topi (fun x1_21 e_21 => ?_)
    have h := bw_let_e h e_21
    clear e_21
    refine lv_istore_n (lv' := [(1, .int x1_21), (0, .ref (a 0))]) hx hb dX6_readProject_21 rfl hl (by decide) rfl (fun ls hl => ?_)
    refine lv_aload_n hx hb dX6_readProject_22 rfl (lv_at hl 1 rfl) ?_
    refine bw_get S hK hI 0 15 rfl rfl (by decide) i_X6 f_X6_25 rfl dX6_readProject_23 ?_
    refine lv_iload_n hx hb dX6_readProject_26 rfl (lv_at hl 0 rfl) ?_
    refine lv_aload_n hx hb dX6_readProject_27 rfl (lv_at hl 1 rfl) ?_
    refine lv_iconst (v := 1) hx hb dX6_readProject_28 rfl ?_
    refine lv_bipush (v := 9) hx hb dX6_readProject_29 (by decide) ?_
    obtain ⟨r31, pl_31, hc, h⟩ := bw_b2_e h
    refine bw_callV S hK hZ hI (mX6_number l G cy g a z rows asd sm buf bm th od om ow ca bo la pl to rd hh 1 9 r31 pl_31 hc) Y_X6_number V_X6_number l_X6_151 ⟨(Nat.le_of_ble_eq_true rfl), (Nat.le_of_ble_eq_true rfl)⟩ (q0 := 0) rfl rfl rfl (ws' := (bw_mW cy a z rows asd sm buf bm th od om ow ca bo la pl_31 to rd hh)) (bw_pS _) (bw_pS' _) rfl rfl hl.1 (rest := [.int x1_21, .ref (a 6)]) (st1 := [.int r31, .int x1_21, .ref (a 6)]) rfl rfl (Nat.le_of_ble_eq_true rfl) dX6_readProject_31 ⟨Nat.le_refl _, Nat.le_refl _⟩ (fun H locs hI => ?_)
    obtain ⟨rd_34, hv, h⟩ := bw_b1_e h
    refine bw_iast hx hb hK hI 6 (ws' := (bw_mW cy a z rows asd sm buf bm th od om ow ca bo la pl_31 to rd_34 hh)) hv rfl rfl dX6_readProject_34 (fun H locs hI => ?_)
    refine lv_aload_n hx hb dX6_readProject_35 rfl (lv_at hl 1 rfl) ?_
    refine bw_get S hK hI 0 15 rfl rfl (by decide) i_X6 f_X6_25 rfl dX6_readProject_36 ?_
    refine lv_iload_n hx hb dX6_readProject_39 rfl (lv_at hl 0 rfl) ?_
    obtain ⟨v40, hv, h⟩ := bw_b1_e h
    refine bw_iald hx hb hK hI 6 hv rfl dX6_readProject_40 ?_
    refine lv_iconst (v := (-1)) hx hb dX6_readProject_41 rfl ?_
    refine lv_icmp_eq (tgt := 54) hx hb dX6_readProject_42 (by decide) (fun c_42 => ?_) (fun c_42 => ?_)
    · rw [if_pos c_42] at h
      refine lv_iconst (v := 0) hx hb dX6_readProject_54 rfl ?_
      subst hQ
      exact bw_iret (rr := (r, pl', to', rd')) S hr hlocks h (fun q : (Int32 × Int32 × bw_A1) => (bw_mW cy a z rows asd sm buf bm th od om ow ca bo la q.1 q.2.1 q.2.2 hh)) hI rfl dX6_readProject_55
    rw [if_neg c_42] at h
    refine lv_aload_n hx hb dX6_readProject_45 rfl (lv_at hl 1 rfl) ?_
    refine lv_bipush (v := 58) hx hb dX6_readProject_46 (by decide) ?_
    obtain ⟨r48, pl_48, hc, h⟩ := bw_b2_e h
    refine bw_callV S hK hZ hI (mX6_takes l G cy g a z rows asd sm buf bm th od om ow ca bo la pl_31 to rd_34 hh 58 r48 pl_48 hc) Y_X6_takes V_X6_takes l_X6_154 ⟨(Nat.le_of_ble_eq_true rfl), (Nat.le_of_ble_eq_true rfl)⟩ (q0 := 0) rfl rfl rfl (ws' := (bw_mW cy a z rows asd sm buf bm th od om ow ca bo la pl_48 to rd_34 hh)) (bw_pS _) (bw_pS' _) rfl rfl hl.1 (rest := []) (st1 := [.int r48]) rfl rfl (Nat.le_of_ble_eq_true rfl) dX6_readProject_48 ⟨Nat.le_refl _, Nat.le_refl _⟩ (fun H locs hI => ?_)
    refine lv_if_ne (tgt := 56) hx hb dX6_readProject_51 (by decide) (fun c_51 => ?_) (fun c_51 => ?_)
    · rw [if_neg c_51] at h
      refine lv_aload_n hx hb dX6_readProject_56 rfl (lv_at hl 1 rfl) ?_
      refine bw_get S hK hI 0 15 rfl rfl (by decide) i_X6 f_X6_25 rfl dX6_readProject_57 ?_
      refine lv_iload_n hx hb dX6_readProject_60 rfl (lv_at hl 0 rfl) ?_
      refine lv_iconst (v := 1) hx hb dX6_readProject_61 rfl ?_
      refine lv_iadd hx hb dX6_readProject_62 ?_
      refine lv_aload_n hx hb dX6_readProject_63 rfl (lv_at hl 1 rfl) ?_
      refine lv_iconst (v := 0) hx hb dX6_readProject_64 rfl ?_
      refine lv_bipush (v := 99) hx hb dX6_readProject_65 (by decide) ?_
      obtain ⟨r67, pl_67, hc, h⟩ := bw_b2_e h
      refine bw_callV S hK hZ hI (mX6_number l G cy g a z rows asd sm buf bm th od om ow ca bo la pl_48 to rd_34 hh 0 99 r67 pl_67 hc) Y_X6_number V_X6_number l_X6_151 ⟨(Nat.le_of_ble_eq_true rfl), (Nat.le_of_ble_eq_true rfl)⟩ (q0 := 0) rfl rfl rfl (ws' := (bw_mW cy a z rows asd sm buf bm th od om ow ca bo la pl_67 to rd_34 hh)) (bw_pS _) (bw_pS' _) rfl rfl hl.1 (rest := [.int (x1_21 + 1), .ref (a 6)]) (st1 := [.int r67, .int (x1_21 + 1), .ref (a 6)]) rfl rfl (Nat.le_of_ble_eq_true rfl) dX6_readProject_67 ⟨Nat.le_refl _, Nat.le_refl _⟩ (fun H locs hI => ?_)
      obtain ⟨rd_70, hv, h⟩ := bw_b1_e h
      refine bw_iast hx hb hK hI 6 (ws' := (bw_mW cy a z rows asd sm buf bm th od om ow ca bo la pl_67 to rd_70 hh)) hv rfl rfl dX6_readProject_70 (fun H locs hI => ?_)
      refine lv_aload_n hx hb dX6_readProject_71 rfl (lv_at hl 1 rfl) ?_
      refine bw_get S hK hI 0 15 rfl rfl (by decide) i_X6 f_X6_25 rfl dX6_readProject_72 ?_
      refine lv_iload_n hx hb dX6_readProject_75 rfl (lv_at hl 0 rfl) ?_
      refine lv_iconst (v := 1) hx hb dX6_readProject_76 rfl ?_
      refine lv_iadd hx hb dX6_readProject_77 ?_
      obtain ⟨v78, hv, h⟩ := bw_b1_e h
      refine bw_iald hx hb hK hI 6 hv rfl dX6_readProject_78 ?_
      refine lv_iconst (v := (-1)) hx hb dX6_readProject_79 rfl ?_
      refine lv_icmp_eq (tgt := 92) hx hb dX6_readProject_80 (by decide) (fun c_80 => ?_) (fun c_80 => ?_)
      · rw [if_pos c_80] at h
        refine lv_iconst (v := 0) hx hb dX6_readProject_92 rfl ?_
        subst hQ
        exact bw_iret (rr := (r, pl', to', rd')) S hr hlocks h (fun q : (Int32 × Int32 × bw_A1) => (bw_mW cy a z rows asd sm buf bm th od om ow ca bo la q.1 q.2.1 q.2.2 hh)) hI rfl dX6_readProject_93
      rw [if_neg c_80] at h
      refine lv_aload_n hx hb dX6_readProject_83 rfl (lv_at hl 1 rfl) ?_
      refine lv_bipush (v := 58) hx hb dX6_readProject_84 (by decide) ?_
      obtain ⟨r86, pl_86, hc, h⟩ := bw_b2_e h
      refine bw_callV S hK hZ hI (mX6_takes l G cy g a z rows asd sm buf bm th od om ow ca bo la pl_67 to rd_70 hh 58 r86 pl_86 hc) Y_X6_takes V_X6_takes l_X6_154 ⟨(Nat.le_of_ble_eq_true rfl), (Nat.le_of_ble_eq_true rfl)⟩ (q0 := 0) rfl rfl rfl (ws' := (bw_mW cy a z rows asd sm buf bm th od om ow ca bo la pl_86 to rd_70 hh)) (bw_pS _) (bw_pS' _) rfl rfl hl.1 (rest := []) (st1 := [.int r86]) rfl rfl (Nat.le_of_ble_eq_true rfl) dX6_readProject_86 ⟨Nat.le_refl _, Nat.le_refl _⟩ (fun H locs hI => ?_)
      refine lv_if_ne (tgt := 94) hx hb dX6_readProject_89 (by decide) (fun c_89 => ?_) (fun c_89 => ?_)
      · rw [if_neg c_89] at h
        refine lv_aload_n hx hb dX6_readProject_94 rfl (lv_at hl 1 rfl) ?_
        refine lv_dup hx hb dX6_readProject_95 rfl ?_
        refine bw_get S hK hI 0 14 rfl rfl (by decide) i_X6 f_X6_157 rfl dX6_readProject_96 ?_
        refine lv_iconst (v := 1) hx hb dX6_readProject_99 rfl ?_
        refine lv_iadd hx hb dX6_readProject_100 ?_
        refine lv_topi (fun to_101 e_101 => ?_)
        have h := bw_let_e h e_101
        clear e_101
        refine bw_put S hK hI 0 14 (ws' := (bw_mW cy a z rows asd sm buf bm th od om ow ca bo la pl_86 to_101 rd_70 hh)) tyX6 tyX6_ok nmX6 rfl rfl (by decide) i_X6 f_X6_157 rfl rfl rfl rfl (Nat.le_of_ble_eq_true rfl) rfl dX6_readProject_101 (fun H locs hI => ?_)
        refine lv_aload_n hx hb dX6_readProject_104 rfl (lv_at hl 1 rfl) ?_
        refine lv_iload_n hx hb dX6_readProject_105 rfl (lv_at hl 0 rfl) ?_
        obtain ⟨r106, pl_106, rd_106, hc, h⟩ := bw_b3_e h
        refine bw_callV S hK hZ hI (mX6_tasks l G cy g a z rows asd sm buf bm th od om ow ca bo la pl_86 to_101 rd_70 hh x1_21 r106 pl_106 rd_106 hc) Y_X6_tasks V_X6_tasks l_X6_160 ⟨(Nat.le_of_ble_eq_true rfl), (Nat.le_of_ble_eq_true rfl)⟩ (q0 := 0) rfl rfl rfl (ws' := (bw_mW cy a z rows asd sm buf bm th od om ow ca bo la pl_106 to_101 rd_106 hh)) (bw_pS _) (bw_pS' _) rfl rfl hl.1 (rest := []) (st1 := [.int r106]) rfl rfl (Nat.le_of_ble_eq_true rfl) dX6_readProject_106 ⟨Nat.le_refl _, Nat.le_refl _⟩ (fun H locs hI => ?_)
        subst hQ
        obtain ⟨h9, h⟩ := bw_bool_e h
        exact bw_iret (rr := (r, pl', to', rd')) S hr hlocks h (fun q : (Int32 × Int32 × bw_A1) => (bw_mW cy a z rows asd sm buf bm th od om ow ca bo la q.1 q.2.1 q.2.2 hh)) hI h9 dX6_readProject_109
      rw [if_pos c_89] at h
      refine lv_iconst (v := 0) hx hb dX6_readProject_92 rfl ?_
      subst hQ
      exact bw_iret (rr := (r, pl', to', rd')) S hr hlocks h (fun q : (Int32 × Int32 × bw_A1) => (bw_mW cy a z rows asd sm buf bm th od om ow ca bo la q.1 q.2.1 q.2.2 hh)) hI rfl dX6_readProject_93
    rw [if_pos c_51] at h
    refine lv_iconst (v := 0) hx hb dX6_readProject_54 rfl ?_
    subst hQ
    exact bw_iret (rr := (r, pl', to', rd')) S hr hlocks h (fun q : (Int32 × Int32 × bw_A1) => (bw_mW cy a z rows asd sm buf bm th od om ow ca bo la q.1 q.2.1 q.2.2 hh)) hI rfl dX6_readProject_55
  unfold fX6_readProject at h
  refine lv_bipush (v := 11) hx hb dX6_readProject_0 (by decide) ?_
  refine lv_aload_n hx hb dX6_readProject_2 rfl (lv_at hl 0 rfl) ?_
  refine bw_get S hK hI 0 14 rfl rfl (by decide) i_X6 f_X6_157 rfl dX6_readProject_3 ?_
  refine lv_bipush (v := 9) hx hb dX6_readProject_6 (by decide) ?_
  refine lv_icmp_ge (tgt := 18) hx hb dX6_readProject_8 (by decide) (fun c_8 => ?_) (fun c_8 => ?_)
  · rw [if_pos c_8] at h
    refine lv_bipush (v := 9) hx hb dX6_readProject_18 (by decide) ?_
    exact j20 pl to rd 9 11 _ _ _ h hI (lv_sub hl [0] rfl)
  rw [if_neg c_8] at h
  refine lv_aload_n hx hb dX6_readProject_11 rfl (lv_at hl 0 rfl) ?_
  refine bw_get S hK hI 0 14 rfl rfl (by decide) i_X6 f_X6_157 rfl dX6_readProject_12 ?_
  refine lv_goto (tgt := 20) hx hb dX6_readProject_15 (by decide) ?_
  exact j20 pl to rd to 11 _ _ _ h hI (lv_sub hl [0] rfl)
set_option maxHeartbeats 4000000 in
set_option maxRecDepth 100000 in
theorem mX6_isPlan (l : Launch) (G : va_G) (cy : Nat → ClassId) (g : Nat) (a : Nat → Nat) (z : bw_A1) (rows : bw_A1) (asd : bw_A1) (sm : Int32) (buf : bw_A1) (bm : Int32) (th : Int32) (od : bw_A1) (om : Int32) (ow : Int32) (ca : Int32) (bo : Int32) (la : Int32) (pl : Int32) (to : Int32) (rd : bw_A1) (hh : Int64) (r : Int32) (pl' : Int32) (to' : Int32) (rd' : bw_A1) (h : fX6_isPlan buf bm pl to rd = some (r, pl', to', rd')) : bw_M l yX6_isPlan cX6_isPlan 2 (some .boolean) 4 93 G cy g [.ref (a 0)] (bw_mW cy a z rows asd sm buf bm th od om ow ca bo la pl to rd hh) (some (.int r)) (bw_mW cy a z rows asd sm buf bm th od om ow ca bo la pl' to' rd' hh) := by
  refine bw_ofW (by decide +kernel) RX6 rfl (Nat.le_of_ble_eq_true rfl) ?_
  intro p e s m below meth c ls S hr hlocks hK hZ hI hl
  have hx := S.1
  have hb := S.2.1
  have hown := S.2.2.2.1
  have hts := S.2.2.2.2
  generalize va_A _ s.heap.size = A at hI hZ ⊢
  generalize hQ : MQ below _ _ s 0 0 A = Q
  have hl : lv_has ls 2 [(0, .ref (a 0))] := hl
  have j55 : ∀ (pl : Int32) (to : Int32) (rd : bw_A1) (H : Heap) (locs : List Loc) (ls : Array Slot), jX6_isPlan_55 buf bm pl to rd = some (r, pl', to', rd') → bw_I G A s.heap (bw_mW cy a z rows asd sm buf bm th od om ow ca bo la pl to rd hh) H locs → lv_has ls 2 [] → W p l e (bw_rm 4 93) s m [.ref (a 0)].toArray below meth c H locs 0 0 Q (F0 m 55 ls []) := by
    intro pl to rd H locs ls h hI hl
    unfold jX6_isPlan_55 at h
    refine lv_iconst (v := 0) hx hb dX6_isPlan_55 rfl ?_
    subst hQ
    exact bw_iret (rr := (r, pl', to', rd')) S hr hlocks h (fun q : (Int32 × Int32 × bw_A1) => (bw_mW cy a z rows asd sm buf bm th od om ow ca bo la q.1 q.2.1 q.2.2 hh)) hI rfl dX6_isPlan_56
  have j36 : ∀ (pl : Int32) (to : Int32) (rd : bw_A1) (x1 : Int32) (H : Heap) (locs : List Loc) (ls : Array Slot), jX6_isPlan_36 buf bm pl to rd x1 = some (r, pl', to', rd') → bw_I G A s.heap (bw_mW cy a z rows asd sm buf bm th od om ow ca bo la pl to rd hh) H locs → lv_has ls 2 [(0, .ref (a 0)), (1, .int x1)] → W p l e (bw_rm 4 93) s m [.ref (a 0)].toArray below meth c H locs 0 0 Q (F0 m 36 ls []) := by
    intro pl to rd x1 H locs ls h hI hl
    unfold jX6_isPlan_36 at h
    refine lv_iload_n hx hb dX6_isPlan_36 rfl (lv_at hl 1 rfl) ?_
    refine lv_if_eq (tgt := 55) hx hb dX6_isPlan_37 (by decide) (fun c_37 => ?_) (fun c_37 => ?_)
    · rw [if_pos c_37] at h
      exact j55 pl to rd _ _ _ h hI (lv_sub hl [] rfl)
    rw [if_neg c_37] at h
    refine lv_aload_n hx hb dX6_isPlan_40 rfl (lv_at hl 0 rfl) ?_
    refine bw_get S hK hI 0 13 rfl rfl (by decide) i_X6 f_X6_144 rfl dX6_isPlan_41 ?_
    refine lv_aload_n hx hb dX6_isPlan_44 rfl (lv_at hl 0 rfl) ?_
    refine bw_get S hK hI 0 5 rfl rfl (by decide) i_X6 f_X6_141 rfl dX6_isPlan_45 ?_
    refine lv_icmp_ne (tgt := 55) hx hb dX6_isPlan_48 (by decide) (fun c_48 => ?_) (fun c_48 => ?_)
    · rw [if_neg c_48] at h
      exact j55 pl to rd _ _ _ h hI (lv_sub hl [] rfl)
    rw [if_pos c_48] at h
    refine lv_iconst (v := 1) hx hb dX6_isPlan_51 rfl ?_
    refine lv_goto (tgt := 56) hx hb dX6_isPlan_52 (by decide) ?_
    subst hQ
    exact bw_iret (rr := (r, pl', to', rd')) S hr hlocks h (fun q : (Int32 × Int32 × bw_A1) => (bw_mW cy a z rows asd sm buf bm th od om ow ca bo la q.1 q.2.1 q.2.2 hh)) hI rfl dX6_isPlan_56
  have l15 : ∀  (n : Nat) (H : Heap) (locs : List Loc) (ls : Array Slot) (pl : Int32) (to : Int32) (rd : bw_A1) (x1 : Int32), lX6_isPlan_15 buf bm n pl to rd x1 = some (r, pl', to', rd') → bw_I G A s.heap (bw_mW cy a z rows asd sm buf bm th od om ow ca bo la pl to rd hh) H locs → lv_has ls 2 [(0, .ref (a 0)), (1, .int x1)] → W p l e (bw_rm 4 93) s m [.ref (a 0)].toArray below meth c H locs 0 0 Q (F0 m 15 ls []) := by
    intro  n
    induction n with
    | zero => intro H locs ls pl to rd x1 h; exact bw_none h
    | succ n ih =>
      intro H locs ls pl to rd x1 h hI hl
      have h : bX6_isPlan_15  (lX6_isPlan_15 buf bm n) buf bm pl to rd x1 = some (r, pl', to', rd') := h
      unfold bX6_isPlan_15 at h
      refine lv_iload_n hx hb dX6_isPlan_15 rfl (lv_at hl 1 rfl) ?_
      refine lv_if_eq (tgt := 36) hx hb dX6_isPlan_16 (by decide) (fun c_16 => ?_) (fun c_16 => ?_)
      · rw [if_pos c_16] at h
        exact j36 pl to rd x1 _ _ _ h hI (lv_sub hl [0,1] rfl)
      rw [if_neg c_16] at h
      refine lv_aload_n hx hb dX6_isPlan_19 rfl (lv_at hl 0 rfl) ?_
      refine lv_bipush (v := 59) hx hb dX6_isPlan_20 (by decide) ?_
      obtain ⟨r22, pl_22, hc, h⟩ := bw_b2_e h
      refine bw_callV S hK hZ hI (mX6_takes l G cy g a z rows asd sm buf bm th od om ow ca bo la pl to rd hh 59 r22 pl_22 hc) Y_X6_takes V_X6_takes l_X6_154 ⟨(Nat.le_of_ble_eq_true rfl), (Nat.le_of_ble_eq_true rfl)⟩ (q0 := 0) rfl rfl rfl (ws' := (bw_mW cy a z rows asd sm buf bm th od om ow ca bo la pl_22 to rd hh)) (bw_pS _) (bw_pS' _) rfl rfl hl.1 (rest := []) (st1 := [.int r22]) rfl rfl (Nat.le_of_ble_eq_true rfl) dX6_isPlan_22 ⟨Nat.le_refl _, Nat.le_refl _⟩ (fun H locs hI => ?_)
      refine lv_if_eq (tgt := 36) hx hb dX6_isPlan_25 (by decide) (fun c_25 => ?_) (fun c_25 => ?_)
      · rw [if_pos c_25] at h
        exact j36 pl_22 to rd x1 _ _ _ h hI (lv_sub hl [0,1] rfl)
      rw [if_neg c_25] at h
      refine lv_aload_n hx hb dX6_isPlan_28 rfl (lv_at hl 0 rfl) ?_
      obtain ⟨r29, pl_29, to_29, rd_29, hc, h⟩ := bw_b4_e h
      refine bw_callV S hK hZ hI (mX6_readProject l G cy g a z rows asd sm buf bm th od om ow ca bo la pl_22 to rd hh r29 pl_29 to_29 rd_29 hc) Y_X6_readProject V_X6_readProject l_X6_163 ⟨(Nat.le_of_ble_eq_true rfl), (Nat.le_of_ble_eq_true rfl)⟩ (q0 := 0) rfl rfl rfl (ws' := (bw_mW cy a z rows asd sm buf bm th od om ow ca bo la pl_29 to_29 rd_29 hh)) (bw_pS _) (bw_pS' _) rfl rfl hl.1 (rest := []) (st1 := [.int r29]) rfl rfl (Nat.le_of_ble_eq_true rfl) dX6_isPlan_29 ⟨Nat.le_refl _, Nat.le_refl _⟩ (fun H locs hI => ?_)
      refine lv_istore_n (lv' := [(1, .int r29), (0, .ref (a 0))]) hx hb dX6_isPlan_32 rfl hl (by decide) rfl (fun ls hl => ?_)
      refine lv_goto (tgt := 15) hx hb dX6_isPlan_33 (by decide) ?_
      exact ih _ _ _ pl_29 to_29 rd_29 r29 h hI (lv_sub hl [1,0] rfl)
  unfold fX6_isPlan at h
  refine lv_aload_n hx hb dX6_isPlan_0 rfl (lv_at hl 0 rfl) ?_
  refine lv_iconst (v := 0) hx hb dX6_isPlan_1 rfl ?_
  refine bw_put S hK hI 0 13 (ws' := (bw_mW cy a z rows asd sm buf bm th od om ow ca bo la 0 to rd hh)) tyX6 tyX6_ok nmX6 rfl rfl (by decide) i_X6 f_X6_144 rfl rfl rfl rfl (Nat.le_of_ble_eq_true rfl) rfl dX6_isPlan_2 (fun H locs hI => ?_)
  refine lv_aload_n hx hb dX6_isPlan_5 rfl (lv_at hl 0 rfl) ?_
  refine lv_iconst (v := 0) hx hb dX6_isPlan_6 rfl ?_
  refine bw_put S hK hI 0 14 (ws' := (bw_mW cy a z rows asd sm buf bm th od om ow ca bo la 0 0 rd hh)) tyX6 tyX6_ok nmX6 rfl rfl (by decide) i_X6 f_X6_157 rfl rfl rfl rfl (Nat.le_of_ble_eq_true rfl) rfl dX6_isPlan_7 (fun H locs hI => ?_)
  refine lv_aload_n hx hb dX6_isPlan_10 rfl (lv_at hl 0 rfl) ?_
  obtain ⟨r11, pl_11, to_11, rd_11, hc, h⟩ := bw_b4_e h
  refine bw_callV S hK hZ hI (mX6_readProject l G cy g a z rows asd sm buf bm th od om ow ca bo la 0 0 rd hh r11 pl_11 to_11 rd_11 hc) Y_X6_readProject V_X6_readProject l_X6_163 ⟨(Nat.le_of_ble_eq_true rfl), (Nat.le_of_ble_eq_true rfl)⟩ (q0 := 0) rfl rfl rfl (ws' := (bw_mW cy a z rows asd sm buf bm th od om ow ca bo la pl_11 to_11 rd_11 hh)) (bw_pS _) (bw_pS' _) rfl rfl hl.1 (rest := []) (st1 := [.int r11]) rfl rfl (Nat.le_of_ble_eq_true rfl) dX6_isPlan_11 ⟨Nat.le_refl _, Nat.le_refl _⟩ (fun H locs hI => ?_)
  refine lv_istore_n (lv' := [(1, .int r11), (0, .ref (a 0))]) hx hb dX6_isPlan_14 rfl hl (by decide) rfl (fun ls hl => ?_)
  exact l15  bw_fu _ _ _ pl_11 to_11 rd_11 r11 h hI (lv_sub hl [1,0] rfl)
set_option maxHeartbeats 4000000 in
set_option maxRecDepth 100000 in
theorem mX6_firstError (l : Launch) (G : va_G) (cy : Nat → ClassId) (g : Nat) (a : Nat → Nat) (z : bw_A1) (rows : bw_A1) (asd : bw_A1) (sm : Int32) (buf : bw_A1) (bm : Int32) (th : Int32) (od : bw_A1) (om : Int32) (ow : Int32) (ca : Int32) (bo : Int32) (la : Int32) (pl : Int32) (to : Int32) (rd : bw_A1) (hh : Int64) (r : Int32) (th' : Int32) (pl' : Int32) (to' : Int32) (rd' : bw_A1) (h : fX6_firstError buf bm th pl to rd = some (r, th', pl', to', rd')) : bw_M l yX6_firstError cX6_firstError 1 (some .int) 5 114 G cy g [.ref (a 0)] (bw_mW cy a z rows asd sm buf bm th od om ow ca bo la pl to rd hh) (some (.int r)) (bw_mW cy a z rows asd sm buf bm th' od om ow ca bo la pl' to' rd' hh) := by
  refine bw_ofW (by decide +kernel) RX6 rfl (Nat.le_of_ble_eq_true rfl) ?_
  intro p e s m below meth c ls S hr hlocks hK hZ hI hl
  have hx := S.1
  have hb := S.2.1
  have hown := S.2.2.2.1
  have hts := S.2.2.2.2
  generalize va_A _ s.heap.size = A at hI hZ ⊢
  generalize hQ : MQ below _ _ s 0 0 A = Q
  have hl : lv_has ls 1 [(0, .ref (a 0))] := hl
  unfold fX6_firstError at h
  refine lv_aload_n hx hb dX6_firstError_0 rfl (lv_at hl 0 rfl) ?_
  refine lv_iconst (v := 0) hx hb dX6_firstError_1 rfl ?_
  refine bw_put S hK hI 0 6 (ws' := (bw_mW cy a z rows asd sm buf bm 0 od om ow ca bo la pl to rd hh)) tyX6 tyX6_ok nmX6 rfl rfl (by decide) i_X6 f_X6_28 rfl rfl rfl rfl (Nat.le_of_ble_eq_true rfl) rfl dX6_firstError_2 (fun H locs hI => ?_)
  refine lv_aload_n hx hb dX6_firstError_5 rfl (lv_at hl 0 rfl) ?_
  obtain ⟨r6, pl_6, to_6, rd_6, hc, h⟩ := bw_b4_e h
  refine bw_callV S hK hZ hI (mX6_isPlan l G cy g a z rows asd sm buf bm 0 od om ow ca bo la pl to rd hh r6 pl_6 to_6 rd_6 hc) Y_X6_isPlan V_X6_isPlan l_X6_167 ⟨(Nat.le_of_ble_eq_true rfl), (Nat.le_of_ble_eq_true rfl)⟩ (q0 := 0) rfl rfl rfl (ws' := (bw_mW cy a z rows asd sm buf bm 0 od om ow ca bo la pl_6 to_6 rd_6 hh)) (bw_pS _) (bw_pS' _) rfl rfl hl.1 (rest := []) (st1 := [.int r6]) rfl rfl (Nat.le_of_ble_eq_true rfl) dX6_firstError_6 ⟨Nat.le_refl _, Nat.le_refl _⟩ (fun H locs hI => ?_)
  refine lv_if_eq (tgt := 19) hx hb dX6_firstError_9 (by decide) (fun c_9 => ?_) (fun c_9 => ?_)
  · rw [if_pos c_9] at h
    refine lv_aload_n hx hb dX6_firstError_19 rfl (lv_at hl 0 rfl) ?_
    refine bw_get S hK hI 0 13 rfl rfl (by decide) i_X6 f_X6_144 rfl dX6_firstError_20 ?_
    subst hQ
    exact bw_iret (rr := (r, th', pl', to', rd')) S hr hlocks h (fun q : (Int32 × Int32 × Int32 × bw_A1) => (bw_mW cy a z rows asd sm buf bm q.1 od om ow ca bo la q.2.1 q.2.2.1 q.2.2.2 hh)) hI rfl dX6_firstError_23
  rw [if_neg c_9] at h
  refine lv_aload_n hx hb dX6_firstError_12 rfl (lv_at hl 0 rfl) ?_
  refine bw_get S hK hI 0 5 rfl rfl (by decide) i_X6 f_X6_141 rfl dX6_firstError_13 ?_
  refine lv_goto (tgt := 23) hx hb dX6_firstError_16 (by decide) ?_
  subst hQ
  exact bw_iret (rr := (r, th', pl', to', rd')) S hr hlocks h (fun q : (Int32 × Int32 × Int32 × bw_A1) => (bw_mW cy a z rows asd sm buf bm q.1 od om ow ca bo la q.2.1 q.2.2.1 q.2.2.2 hh)) hI rfl dX6_firstError_23
set_option maxHeartbeats 4000000 in
set_option maxRecDepth 100000 in
theorem mX6_openAll (l : Launch) (G : va_G) (cy : Nat → ClassId) (g : Nat) (a : Nat → Nat) (z : bw_A1) (rows : bw_A1) (asd : bw_A1) (sm : Int32) (buf : bw_A1) (bm : Int32) (th : Int32) (od : bw_A1) (om : Int32) (ow : Int32) (ca : Int32) (bo : Int32) (la : Int32) (pl : Int32) (to : Int32) (rd : bw_A1) (hh : Int64) (r : Int32) (z' : bw_A1) (rows' : bw_A1) (sm' : Int32) (bm' : Int32) (th' : Int32) (pl' : Int32) (to' : Int32) (rd' : bw_A1) (h : fX6_openAll z rows sm buf bm th pl to rd = some (r, z', rows', sm', bm', th', pl', to', rd')) : bw_M l yX6_openAll cX6_openAll 4 (some .int) 5 114 G cy g [.ref (a 0)] (bw_mW cy a z rows asd sm buf bm th od om ow ca bo la pl to rd hh) (some (.int r)) (bw_mW cy a z' rows' asd sm' buf bm' th' od om ow ca bo la pl' to' rd' hh) := by
  refine bw_ofW (by decide +kernel) RX6 rfl (Nat.le_of_ble_eq_true rfl) ?_
  intro p e s m below meth c ls S hr hlocks hK hZ hI hl
  have hx := S.1
  have hb := S.2.1
  have hown := S.2.2.2.1
  have hts := S.2.2.2.2
  generalize va_A _ s.heap.size = A at hI hZ ⊢
  generalize hQ : MQ below _ _ s 0 0 A = Q
  have hl : lv_has ls 4 [(0, .ref (a 0))] := hl
  have l79 : ∀ (rows : bw_A1) (sm : Int32) (bm : Int32) (th : Int32) (pl : Int32) (to : Int32) (rd : bw_A1) (x1 : Int32) (x2 : Int32) (k46 : bw_A1 → Int32 → Option (Int32 × bw_A1 × bw_A1 × Int32 × Int32 × Int32 × Int32 × Int32 × bw_A1)) (hk46 : ∀ (H : Heap) (locs : List Loc) (ls : Array Slot) (z_ : bw_A1) (x1_ : Int32), k46 z_ x1_ = some (r, z', rows', sm', bm', th', pl', to', rd') → bw_I G A s.heap (bw_mW cy a z_ rows asd sm buf bm th od om ow ca bo la pl to rd hh) H locs → lv_has ls 4 [(0, .ref (a 0)), (1, .int x1_)] → W p l e (bw_rm 5 114) s m [.ref (a 0)].toArray below meth c H locs 0 0 Q (F0 m 46 ls [])) (n : Nat) (H : Heap) (locs : List Loc) (ls : Array Slot) (z : bw_A1) (x3 : Int32), lX6_openAll_79 k46 rows sm buf bm th pl to rd x1 x2 n z x3 = some (r, z', rows', sm', bm', th', pl', to', rd') → bw_I G A s.heap (bw_mW cy a z rows asd sm buf bm th od om ow ca bo la pl to rd hh) H locs → lv_has ls 4 [(0, .ref (a 0)), (1, .int x1), (2, .int x2), (3, .int x3)] → W p l e (bw_rm 5 114) s m [.ref (a 0)].toArray below meth c H locs 0 0 Q (F0 m 79 ls []) := by
    intro rows sm bm th pl to rd x1 x2 k46 hk46 n
    induction n with
    | zero => intro H locs ls z x3 h; exact bw_none h
    | succ n ih =>
      intro H locs ls z x3 h hI hl
      have h : bX6_openAll_79 k46 (lX6_openAll_79 k46 rows sm buf bm th pl to rd x1 x2 n) rows sm buf bm th pl to rd x1 x2 z x3 = some (r, z', rows', sm', bm', th', pl', to', rd') := h
      unfold bX6_openAll_79 at h
      refine lv_iload_n hx hb dX6_openAll_79 rfl (lv_at hl 3 rfl) ?_
      refine lv_aload_n hx hb dX6_openAll_80 rfl (lv_at hl 0 rfl) ?_
      refine bw_get S hK hI 0 15 rfl rfl (by decide) i_X6 f_X6_25 rfl dX6_openAll_81 ?_
      refine lv_iload_n hx hb dX6_openAll_84 rfl (lv_at hl 2 rfl) ?_
      refine lv_iconst (v := 2) hx hb dX6_openAll_85 rfl ?_
      refine lv_iadd hx hb dX6_openAll_86 ?_
      obtain ⟨v87, hv, h⟩ := bw_b1_e h
      refine bw_iald hx hb hK hI 6 hv rfl dX6_openAll_87 ?_
      refine lv_icmp_ge (tgt := 119) hx hb dX6_openAll_88 (by decide) (fun c_88 => ?_) (fun c_88 => ?_)
      · rw [if_pos c_88] at h
        obtain ⟨x1_119, e_119⟩ : ∃ y : Int32, y = x1 + 1 := ⟨_, rfl⟩
        have h := bw_let_e h e_119
        refine lv_iinc (v := x1_119) (lv' := [(1, .int x1_119), (0, .ref (a 0)), (2, .int x2), (3, .int x3)]) hx hb dX6_openAll_119 hl (k := 1) rfl (by rw [e_119]; rfl) (by decide) rfl (fun ls hl => ?_)
        clear e_119
        refine lv_goto (tgt := 46) hx hb dX6_openAll_122 (by decide) ?_
        exact hk46 _ _ _ z x1_119 h hI (lv_sub hl [1,0] rfl)
      rw [if_neg c_88] at h
      refine lv_aload_n hx hb dX6_openAll_91 rfl (lv_at hl 0 rfl) ?_
      refine lv_aload_n hx hb dX6_openAll_92 rfl (lv_at hl 0 rfl) ?_
      refine bw_get S hK hI 0 0 rfl rfl (by decide) i_X6 f_X6_7 rfl dX6_openAll_93 ?_
      refine lv_iconst (v := 0) hx hb dX6_openAll_96 rfl ?_
      obtain ⟨v97, hv, h⟩ := bw_b1_e h
      refine bw_iald hx hb hK hI 1 hv rfl dX6_openAll_97 ?_
      refine lv_iconst (v := 1) hx hb dX6_openAll_98 rfl ?_
      refine lv_isub hx hb dX6_openAll_99 ?_
      refine lv_aload_n hx hb dX6_openAll_100 rfl (lv_at hl 0 rfl) ?_
      refine bw_get S hK hI 0 15 rfl rfl (by decide) i_X6 f_X6_25 rfl dX6_openAll_101 ?_
      refine lv_iload_n hx hb dX6_openAll_104 rfl (lv_at hl 2 rfl) ?_
      refine lv_iconst (v := 3) hx hb dX6_openAll_105 rfl ?_
      refine lv_iadd hx hb dX6_openAll_106 ?_
      refine lv_iload_n hx hb dX6_openAll_107 rfl (lv_at hl 3 rfl) ?_
      refine lv_iadd hx hb dX6_openAll_108 ?_
      obtain ⟨v109, hv, h⟩ := bw_b1_e h
      refine bw_iald hx hb hK hI 6 hv rfl dX6_openAll_109 ?_
      obtain ⟨z_110, hc, h⟩ := bw_b1_e h
      refine bw_callV S hK hZ hI (mX6_planNow l G cy g a z rows asd sm buf bm th od om ow ca bo la pl to rd hh (v97 - 1) v109 z_110 hc) Y_X6_planNow V_X6_planNow l_X6_126 ⟨(Nat.le_of_ble_eq_true rfl), (Nat.le_of_ble_eq_true rfl)⟩ (q0 := 0) rfl rfl rfl (ws' := (bw_mW cy a z_110 rows asd sm buf bm th od om ow ca bo la pl to rd hh)) (bw_pS _) (bw_pS' _) rfl rfl hl.1 (rest := []) (st1 := []) rfl rfl (Nat.le_of_ble_eq_true rfl) dX6_openAll_110 ⟨Nat.le_refl _, Nat.le_refl _⟩ (fun H locs hI => ?_)
      obtain ⟨x3_113, e_113⟩ : ∃ y : Int32, y = x3 + 1 := ⟨_, rfl⟩
      have h := bw_let_e h e_113
      refine lv_iinc (v := x3_113) (lv' := [(3, .int x3_113), (0, .ref (a 0)), (1, .int x1), (2, .int x2)]) hx hb dX6_openAll_113 hl (k := 3) rfl (by rw [e_113]; rfl) (by decide) rfl (fun ls hl => ?_)
      clear e_113
      refine lv_goto (tgt := 79) hx hb dX6_openAll_116 (by decide) ?_
      exact ih _ _ _ z_110 x3_113 h hI (lv_sub hl [1,2,3,0] rfl)
  have l46 : ∀ (rows : bw_A1) (sm : Int32) (bm : Int32) (th : Int32) (pl : Int32) (to : Int32) (rd : bw_A1) (n : Nat) (H : Heap) (locs : List Loc) (ls : Array Slot) (z : bw_A1) (x1 : Int32), lX6_openAll_46 rows sm buf bm th pl to rd n z x1 = some (r, z', rows', sm', bm', th', pl', to', rd') → bw_I G A s.heap (bw_mW cy a z rows asd sm buf bm th od om ow ca bo la pl to rd hh) H locs → lv_has ls 4 [(0, .ref (a 0)), (1, .int x1)] → W p l e (bw_rm 5 114) s m [.ref (a 0)].toArray below meth c H locs 0 0 Q (F0 m 46 ls []) := by
    intro rows sm bm th pl to rd n
    induction n with
    | zero => intro H locs ls z x1 h; exact bw_none h
    | succ n ih =>
      intro H locs ls z x1 h hI hl
      have h : bX6_openAll_46  (lX6_openAll_46 rows sm buf bm th pl to rd n) rows sm buf bm th pl to rd z x1 = some (r, z', rows', sm', bm', th', pl', to', rd') := h
      unfold bX6_openAll_46 at h
      refine lv_iload_n hx hb dX6_openAll_46 rfl (lv_at hl 1 rfl) ?_
      refine lv_aload_n hx hb dX6_openAll_47 rfl (lv_at hl 0 rfl) ?_
      refine bw_get S hK hI 0 14 rfl rfl (by decide) i_X6 f_X6_157 rfl dX6_openAll_48 ?_
      refine lv_icmp_ge (tgt := 125) hx hb dX6_openAll_51 (by decide) (fun c_51 => ?_) (fun c_51 => ?_)
      · rw [if_pos c_51] at h
        refine lv_aload_n hx hb dX6_openAll_125 rfl (lv_at hl 0 rfl) ?_
        refine lv_iconst (v := 0) hx hb dX6_openAll_126 rfl ?_
        refine bw_put S hK hI 0 5 (ws' := (bw_mW cy a z rows asd sm buf 0 th od om ow ca bo la pl to rd hh)) tyX6 tyX6_ok nmX6 rfl rfl (by decide) i_X6 f_X6_141 rfl rfl rfl rfl (Nat.le_of_ble_eq_true rfl) rfl dX6_openAll_127 (fun H locs hI => ?_)
        refine lv_aload_n hx hb dX6_openAll_130 rfl (lv_at hl 0 rfl) ?_
        refine bw_get S hK hI 0 0 rfl rfl (by decide) i_X6 f_X6_7 rfl dX6_openAll_131 ?_
        refine lv_iconst (v := 0) hx hb dX6_openAll_134 rfl ?_
        obtain ⟨v135, hv, h⟩ := bw_b1_e h
        refine bw_iald hx hb hK hI 1 hv rfl dX6_openAll_135 ?_
        subst hQ
        exact bw_iret (rr := (r, z', rows', sm', bm', th', pl', to', rd')) S hr hlocks h (fun q : (bw_A1 × bw_A1 × Int32 × Int32 × Int32 × Int32 × Int32 × bw_A1) => (bw_mW cy a q.1 q.2.1 asd q.2.2.1 buf q.2.2.2.1 q.2.2.2.2.1 od om ow ca bo la q.2.2.2.2.2.1 q.2.2.2.2.2.2.1 q.2.2.2.2.2.2.2 hh)) hI rfl dX6_openAll_136
      rw [if_neg c_51] at h
      refine lv_bipush (v := 11) hx hb dX6_openAll_54 (by decide) ?_
      refine lv_iload_n hx hb dX6_openAll_56 rfl (lv_at hl 1 rfl) ?_
      refine lv_imul hx hb dX6_openAll_57 ?_
      refine lv_topi (fun x2_58 e_58 => ?_)
      have h := bw_let_e h e_58
      clear e_58
      refine lv_istore_n (lv' := [(2, .int x2_58), (0, .ref (a 0)), (1, .int x1)]) hx hb dX6_openAll_58 rfl hl (by decide) rfl (fun ls hl => ?_)
      refine lv_aload_n hx hb dX6_openAll_59 rfl (lv_at hl 1 rfl) ?_
      refine lv_aload_n hx hb dX6_openAll_60 rfl (lv_at hl 1 rfl) ?_
      refine bw_get S hK hI 0 15 rfl rfl (by decide) i_X6 f_X6_25 rfl dX6_openAll_61 ?_
      refine lv_iload_n hx hb dX6_openAll_64 rfl (lv_at hl 0 rfl) ?_
      obtain ⟨v65, hv, h⟩ := bw_b1_e h
      refine bw_iald hx hb hK hI 6 hv rfl dX6_openAll_65 ?_
      refine lv_aload_n hx hb dX6_openAll_66 rfl (lv_at hl 1 rfl) ?_
      refine bw_get S hK hI 0 15 rfl rfl (by decide) i_X6 f_X6_25 rfl dX6_openAll_67 ?_
      refine lv_iload_n hx hb dX6_openAll_70 rfl (lv_at hl 0 rfl) ?_
      refine lv_iconst (v := 1) hx hb dX6_openAll_71 rfl ?_
      refine lv_iadd hx hb dX6_openAll_72 ?_
      obtain ⟨v73, hv, h⟩ := bw_b1_e h
      refine bw_iald hx hb hK hI 6 hv rfl dX6_openAll_73 ?_
      obtain ⟨z_74, hc, h⟩ := bw_b1_e h
      refine bw_callV S hK hZ hI (mX6_openNow l G cy g a z rows asd sm buf bm th od om ow ca bo la pl to rd hh v65 v73 z_74 hc) Y_X6_openNow V_X6_openNow l_X6_120 ⟨(Nat.le_of_ble_eq_true rfl), (Nat.le_of_ble_eq_true rfl)⟩ (q0 := 0) rfl rfl rfl (ws' := (bw_mW cy a z_74 rows asd sm buf bm th od om ow ca bo la pl to rd hh)) (bw_pS _) (bw_pS' _) rfl rfl hl.1 (rest := []) (st1 := []) rfl rfl (Nat.le_of_ble_eq_true rfl) dX6_openAll_74 ⟨Nat.le_refl _, Nat.le_refl _⟩ (fun H locs hI => ?_)
      refine lv_iconst (v := 0) hx hb dX6_openAll_77 rfl ?_
      refine lv_istore_n (lv' := [(3, .int 0), (2, .int x2_58), (0, .ref (a 0)), (1, .int x1)]) hx hb dX6_openAll_78 rfl hl (by decide) rfl (fun ls hl => ?_)
      exact l79 rows sm bm th pl to rd x1 x2_58 (lX6_openAll_46 rows sm buf bm th pl to rd n) ih bw_fu _ _ _ z_74 0 h hI (lv_sub hl [2,3,1,0] rfl)
  unfold fX6_openAll at h
  refine lv_aload_n hx hb dX6_openAll_0 rfl (lv_at hl 0 rfl) ?_
  refine lv_iconst (v := 0) hx hb dX6_openAll_1 rfl ?_
  refine bw_put S hK hI 0 6 (ws' := (bw_mW cy a z rows asd sm buf bm 0 od om ow ca bo la pl to rd hh)) tyX6 tyX6_ok nmX6 rfl rfl (by decide) i_X6 f_X6_28 rfl rfl rfl rfl (Nat.le_of_ble_eq_true rfl) rfl dX6_openAll_2 (fun H locs hI => ?_)
  refine lv_aload_n hx hb dX6_openAll_5 rfl (lv_at hl 0 rfl) ?_
  obtain ⟨r6, pl_6, to_6, rd_6, hc, h⟩ := bw_b4_e h
  refine bw_callV S hK hZ hI (mX6_isPlan l G cy g a z rows asd sm buf bm 0 od om ow ca bo la pl to rd hh r6 pl_6 to_6 rd_6 hc) Y_X6_isPlan V_X6_isPlan l_X6_167 ⟨(Nat.le_of_ble_eq_true rfl), (Nat.le_of_ble_eq_true rfl)⟩ (q0 := 0) rfl rfl rfl (ws' := (bw_mW cy a z rows asd sm buf bm 0 od om ow ca bo la pl_6 to_6 rd_6 hh)) (bw_pS _) (bw_pS' _) rfl rfl hl.1 (rest := []) (st1 := [.int r6]) rfl rfl (Nat.le_of_ble_eq_true rfl) dX6_openAll_6 ⟨Nat.le_refl _, Nat.le_refl _⟩ (fun H locs hI => ?_)
  refine lv_if_ne (tgt := 18) hx hb dX6_openAll_9 (by decide) (fun c_9 => ?_) (fun c_9 => ?_)
  · rw [if_neg c_9] at h
    refine lv_aload_n hx hb dX6_openAll_18 rfl (lv_at hl 0 rfl) ?_
    refine bw_get S hK hI 0 0 rfl rfl (by decide) i_X6 f_X6_7 rfl dX6_openAll_19 ?_
    refine lv_iconst (v := 0) hx hb dX6_openAll_22 rfl ?_
    obtain ⟨v23, hv, h⟩ := bw_b1_e h
    refine bw_iald hx hb hK hI 1 hv rfl dX6_openAll_23 ?_
    refine lv_aload_n hx hb dX6_openAll_24 rfl (lv_at hl 0 rfl) ?_
    refine bw_get S hK hI 0 14 rfl rfl (by decide) i_X6 f_X6_157 rfl dX6_openAll_25 ?_
    refine lv_iadd hx hb dX6_openAll_28 ?_
    refine lv_bipush (v := 6) hx hb dX6_openAll_29 (by decide) ?_
    refine lv_icmp_le (tgt := 40) hx hb dX6_openAll_31 (by decide) (fun c_31 => ?_) (fun c_31 => ?_)
    · rw [if_pos c_31] at h
      refine lv_aload_n hx hb dX6_openAll_40 rfl (lv_at hl 0 rfl) ?_
      obtain ⟨rows_41, sm_41, hc, h⟩ := bw_b2_e h
      refine bw_callV S hK hZ hI (mX6_save l G cy g a z rows asd sm buf bm 0 od om ow ca bo la pl_6 to_6 rd_6 hh rows_41 sm_41 hc) Y_X6_save V_X6_save l_X6_117 ⟨(Nat.le_of_ble_eq_true rfl), (Nat.le_of_ble_eq_true rfl)⟩ (q0 := 0) rfl rfl rfl (ws' := (bw_mW cy a z rows_41 asd sm_41 buf bm 0 od om ow ca bo la pl_6 to_6 rd_6 hh)) (bw_pS _) (bw_pS' _) rfl rfl hl.1 (rest := []) (st1 := []) rfl rfl (Nat.le_of_ble_eq_true rfl) dX6_openAll_41 ⟨Nat.le_refl _, Nat.le_refl _⟩ (fun H locs hI => ?_)
      refine lv_iconst (v := 0) hx hb dX6_openAll_44 rfl ?_
      refine lv_istore_n (lv' := [(1, .int 0), (0, .ref (a 0))]) hx hb dX6_openAll_45 rfl hl (by decide) rfl (fun ls hl => ?_)
      exact l46 rows_41 sm_41 bm 0 pl_6 to_6 rd_6 bw_fu _ _ _ z 0 h hI (lv_sub hl [1,0] rfl)
    rw [if_neg c_31] at h
    refine lv_aload_n hx hb dX6_openAll_34 rfl (lv_at hl 0 rfl) ?_
    refine lv_iconst (v := 2) hx hb dX6_openAll_35 rfl ?_
    obtain ⟨r36, th_36, hc, h⟩ := bw_b2_e h
    refine bw_callV S hK hZ hI (mX6_fails l G cy g a z rows asd sm buf bm 0 od om ow ca bo la pl_6 to_6 rd_6 hh 2 r36 th_36 hc) Y_X6_fails V_X6_fails l_X6_114 ⟨(Nat.le_of_ble_eq_true rfl), (Nat.le_of_ble_eq_true rfl)⟩ (q0 := 0) rfl rfl rfl (ws' := (bw_mW cy a z rows asd sm buf bm th_36 od om ow ca bo la pl_6 to_6 rd_6 hh)) (bw_pS _) (bw_pS' _) rfl rfl hl.1 (rest := []) (st1 := [.int r36]) rfl rfl (Nat.le_of_ble_eq_true rfl) dX6_openAll_36 ⟨Nat.le_refl _, Nat.le_refl _⟩ (fun H locs hI => ?_)
    subst hQ
    exact bw_iret (rr := (r, z', rows', sm', bm', th', pl', to', rd')) S hr hlocks h (fun q : (bw_A1 × bw_A1 × Int32 × Int32 × Int32 × Int32 × Int32 × bw_A1) => (bw_mW cy a q.1 q.2.1 asd q.2.2.1 buf q.2.2.2.1 q.2.2.2.2.1 od om ow ca bo la q.2.2.2.2.2.1 q.2.2.2.2.2.2.1 q.2.2.2.2.2.2.2 hh)) hI rfl dX6_openAll_39
  rw [if_pos c_9] at h
  refine lv_aload_n hx hb dX6_openAll_12 rfl (lv_at hl 0 rfl) ?_
  refine lv_iconst (v := 1) hx hb dX6_openAll_13 rfl ?_
  obtain ⟨r14, th_14, hc, h⟩ := bw_b2_e h
  refine bw_callV S hK hZ hI (mX6_fails l G cy g a z rows asd sm buf bm 0 od om ow ca bo la pl_6 to_6 rd_6 hh 1 r14 th_14 hc) Y_X6_fails V_X6_fails l_X6_114 ⟨(Nat.le_of_ble_eq_true rfl), (Nat.le_of_ble_eq_true rfl)⟩ (q0 := 0) rfl rfl rfl (ws' := (bw_mW cy a z rows asd sm buf bm th_14 od om ow ca bo la pl_6 to_6 rd_6 hh)) (bw_pS _) (bw_pS' _) rfl rfl hl.1 (rest := []) (st1 := [.int r14]) rfl rfl (Nat.le_of_ble_eq_true rfl) dX6_openAll_14 ⟨Nat.le_refl _, Nat.le_refl _⟩ (fun H locs hI => ?_)
  subst hQ
  exact bw_iret (rr := (r, z', rows', sm', bm', th', pl', to', rd')) S hr hlocks h (fun q : (bw_A1 × bw_A1 × Int32 × Int32 × Int32 × Int32 × Int32 × bw_A1) => (bw_mW cy a q.1 q.2.1 asd q.2.2.1 buf q.2.2.2.1 q.2.2.2.2.1 od om ow ca bo la q.2.2.2.2.2.1 q.2.2.2.2.2.2.1 q.2.2.2.2.2.2.2 hh)) hI rfl dX6_openAll_17
set_option maxHeartbeats 4000000 in
set_option maxRecDepth 100000 in
theorem mX6_undo (l : Launch) (G : va_G) (cy : Nat → ClassId) (g : Nat) (a : Nat → Nat) (z : bw_A1) (rows : bw_A1) (asd : bw_A1) (sm : Int32) (buf : bw_A1) (bm : Int32) (th : Int32) (od : bw_A1) (om : Int32) (ow : Int32) (ca : Int32) (bo : Int32) (la : Int32) (pl : Int32) (to : Int32) (rd : bw_A1) (hh : Int64) (r : Int32) (z' : bw_A1) (sm' : Int32) (th' : Int32) (h : fX6_undo z rows sm th = some (r, z', sm', th')) : bw_M l yX6_undo cX6_undo 2 (some .int) 1 21 G cy g [.ref (a 0)] (bw_mW cy a z rows asd sm buf bm th od om ow ca bo la pl to rd hh) (some (.int r)) (bw_mW cy a z' rows asd sm' buf bm th' od om ow ca bo la pl to rd hh) := by
  refine bw_ofW (by decide +kernel) RX6 rfl (Nat.le_of_ble_eq_true rfl) ?_
  intro p e s m below meth c ls S hr hlocks hK hZ hI hl
  have hx := S.1
  have hb := S.2.1
  have hown := S.2.2.2.1
  have hts := S.2.2.2.2
  generalize va_A _ s.heap.size = A at hI hZ ⊢
  generalize hQ : MQ below _ _ s 0 0 A = Q
  have hl : lv_has ls 2 [(0, .ref (a 0))] := hl
  have l30 : ∀ (sm : Int32) (th : Int32) (n : Nat) (H : Heap) (locs : List Loc) (ls : Array Slot) (z : bw_A1) (x1 : Int32), lX6_undo_30 rows sm th n z x1 = some (r, z', sm', th') → bw_I G A s.heap (bw_mW cy a z rows asd sm buf bm th od om ow ca bo la pl to rd hh) H locs → lv_has ls 2 [(0, .ref (a 0)), (1, .int x1)] → W p l e (bw_rm 1 21) s m [.ref (a 0)].toArray below meth c H locs 0 0 Q (F0 m 30 ls []) := by
    intro sm th n
    induction n with
    | zero => intro H locs ls z x1 h; exact bw_none h
    | succ n ih =>
      intro H locs ls z x1 h hI hl
      have h : bX6_undo_30  (lX6_undo_30 rows sm th n) rows sm th z x1 = some (r, z', sm', th') := h
      unfold bX6_undo_30 at h
      refine lv_iload_n hx hb dX6_undo_30 rfl (lv_at hl 1 rfl) ?_
      refine lv_sipush (v := 444) hx hb dX6_undo_31 (by decide) ?_
      refine lv_icmp_ge (tgt := 64) hx hb dX6_undo_34 (by decide) (fun c_34 => ?_) (fun c_34 => ?_)
      · rw [if_pos c_34] at h
        refine lv_aload_n hx hb dX6_undo_64 rfl (lv_at hl 0 rfl) ?_
        refine bw_get S hK hI 0 3 rfl rfl (by decide) i_X6 f_X6_32 rfl dX6_undo_65 ?_
        subst hQ
        exact bw_iret (rr := (r, z', sm', th')) S hr hlocks h (fun q : (bw_A1 × Int32 × Int32) => (bw_mW cy a q.1 rows asd q.2.1 buf bm q.2.2 od om ow ca bo la pl to rd hh)) hI rfl dX6_undo_68
      rw [if_neg c_34] at h
      refine lv_aload_n hx hb dX6_undo_37 rfl (lv_at hl 0 rfl) ?_
      refine bw_get S hK hI 0 0 rfl rfl (by decide) i_X6 f_X6_7 rfl dX6_undo_38 ?_
      refine lv_iload_n hx hb dX6_undo_41 rfl (lv_at hl 1 rfl) ?_
      refine lv_aload_n hx hb dX6_undo_42 rfl (lv_at hl 0 rfl) ?_
      refine bw_get S hK hI 0 1 rfl rfl (by decide) i_X6 f_X6_13 rfl dX6_undo_43 ?_
      refine lv_sipush (v := 444) hx hb dX6_undo_46 (by decide) ?_
      refine lv_aload_n hx hb dX6_undo_49 rfl (lv_at hl 0 rfl) ?_
      refine bw_get S hK hI 0 3 rfl rfl (by decide) i_X6 f_X6_32 rfl dX6_undo_50 ?_
      refine lv_imul hx hb dX6_undo_53 ?_
      refine lv_iload_n hx hb dX6_undo_54 rfl (lv_at hl 1 rfl) ?_
      refine lv_iadd hx hb dX6_undo_55 ?_
      obtain ⟨v56, hv, h⟩ := bw_b1_e h
      refine bw_iald hx hb hK hI 2 hv rfl dX6_undo_56 ?_
      obtain ⟨z_57, hv, h⟩ := bw_b1_e h
      refine bw_iast hx hb hK hI 1 (ws' := (bw_mW cy a z_57 rows asd sm buf bm th od om ow ca bo la pl to rd hh)) hv rfl rfl dX6_undo_57 (fun H locs hI => ?_)
      obtain ⟨x1_58, e_58⟩ : ∃ y : Int32, y = x1 + 1 := ⟨_, rfl⟩
      have h := bw_let_e h e_58
      refine lv_iinc (v := x1_58) (lv' := [(1, .int x1_58), (0, .ref (a 0))]) hx hb dX6_undo_58 hl (k := 1) rfl (by rw [e_58]; rfl) (by decide) rfl (fun ls hl => ?_)
      clear e_58
      refine lv_goto (tgt := 30) hx hb dX6_undo_61 (by decide) ?_
      exact ih _ _ _ z_57 x1_58 h hI (lv_sub hl [1,0] rfl)
  unfold fX6_undo at h
  refine lv_aload_n hx hb dX6_undo_0 rfl (lv_at hl 0 rfl) ?_
  refine lv_iconst (v := 0) hx hb dX6_undo_1 rfl ?_
  refine bw_put S hK hI 0 6 (ws' := (bw_mW cy a z rows asd sm buf bm 0 od om ow ca bo la pl to rd hh)) tyX6 tyX6_ok nmX6 rfl rfl (by decide) i_X6 f_X6_28 rfl rfl rfl rfl (Nat.le_of_ble_eq_true rfl) rfl dX6_undo_2 (fun H locs hI => ?_)
  refine lv_aload_n hx hb dX6_undo_5 rfl (lv_at hl 0 rfl) ?_
  refine bw_get S hK hI 0 3 rfl rfl (by decide) i_X6 f_X6_32 rfl dX6_undo_6 ?_
  refine lv_if_ne (tgt := 18) hx hb dX6_undo_9 (by decide) (fun c_9 => ?_) (fun c_9 => ?_)
  · rw [if_neg c_9] at h
    refine lv_aload_n hx hb dX6_undo_18 rfl (lv_at hl 0 rfl) ?_
    refine lv_dup hx hb dX6_undo_19 rfl ?_
    refine bw_get S hK hI 0 3 rfl rfl (by decide) i_X6 f_X6_32 rfl dX6_undo_20 ?_
    refine lv_iconst (v := 1) hx hb dX6_undo_23 rfl ?_
    refine lv_isub hx hb dX6_undo_24 ?_
    refine lv_topi (fun sm_25 e_25 => ?_)
    have h := bw_let_e h e_25
    clear e_25
    refine bw_put S hK hI 0 3 (ws' := (bw_mW cy a z rows asd sm_25 buf bm 0 od om ow ca bo la pl to rd hh)) tyX6 tyX6_ok nmX6 rfl rfl (by decide) i_X6 f_X6_32 rfl rfl rfl rfl (Nat.le_of_ble_eq_true rfl) rfl dX6_undo_25 (fun H locs hI => ?_)
    refine lv_iconst (v := 0) hx hb dX6_undo_28 rfl ?_
    refine lv_istore_n (lv' := [(1, .int 0), (0, .ref (a 0))]) hx hb dX6_undo_29 rfl hl (by decide) rfl (fun ls hl => ?_)
    exact l30 sm_25 0 bw_fu _ _ _ z 0 h hI (lv_sub hl [1,0] rfl)
  rw [if_pos c_9] at h
  refine lv_aload_n hx hb dX6_undo_12 rfl (lv_at hl 0 rfl) ?_
  refine lv_iconst (v := 1) hx hb dX6_undo_13 rfl ?_
  obtain ⟨r14, th_14, hc, h⟩ := bw_b2_e h
  refine bw_callV S hK hZ hI (mX6_fails l G cy g a z rows asd sm buf bm 0 od om ow ca bo la pl to rd hh 1 r14 th_14 hc) Y_X6_fails V_X6_fails l_X6_114 ⟨(Nat.le_of_ble_eq_true rfl), (Nat.le_of_ble_eq_true rfl)⟩ (q0 := 0) rfl rfl rfl (ws' := (bw_mW cy a z rows asd sm buf bm th_14 od om ow ca bo la pl to rd hh)) (bw_pS _) (bw_pS' _) rfl rfl hl.1 (rest := []) (st1 := [.int r14]) rfl rfl (Nat.le_of_ble_eq_true rfl) dX6_undo_14 ⟨Nat.le_refl _, Nat.le_refl _⟩ (fun H locs hI => ?_)
  subst hQ
  exact bw_iret (rr := (r, z', sm', th')) S hr hlocks h (fun q : (bw_A1 × Int32 × Int32) => (bw_mW cy a q.1 rows asd q.2.1 buf bm q.2.2 od om ow ca bo la pl to rd hh)) hI rfl dX6_undo_17
set_option maxHeartbeats 4000000 in
set_option maxRecDepth 100000 in
theorem mX6_planned (l : Launch) (G : va_G) (cy : Nat → ClassId) (g : Nat) (a : Nat → Nat) (z : bw_A1) (rows : bw_A1) (asd : bw_A1) (sm : Int32) (buf : bw_A1) (bm : Int32) (th : Int32) (od : bw_A1) (om : Int32) (ow : Int32) (ca : Int32) (bo : Int32) (la : Int32) (pl : Int32) (to : Int32) (rd : bw_A1) (hh : Int64) (p1 : Int32) (r : Int32) (h : fX6_planned z p1 = some r) : bw_M l yX6_planned cX6_planned 4 (some .int) 1 20 G cy g [.ref (a 0), .int p1] (bw_mW cy a z rows asd sm buf bm th od om ow ca bo la pl to rd hh) (some (.int r)) (bw_mW cy a z rows asd sm buf bm th od om ow ca bo la pl to rd hh) := by
  refine bw_ofW (by decide +kernel) RX6 rfl (Nat.le_of_ble_eq_true rfl) ?_
  intro p e s m below meth c ls S hr hlocks hK hZ hI hl
  have hx := S.1
  have hb := S.2.1
  have hown := S.2.2.2.1
  have hts := S.2.2.2.2
  generalize va_A _ s.heap.size = A at hI hZ ⊢
  generalize hQ : MQ below _ _ s 0 0 A = Q
  have hl : lv_has ls 4 [(0, .ref (a 0)), (1, .int p1)] := hl
  have l4 : ∀ (x1 : Int32) (n : Nat) (H : Heap) (locs : List Loc) (ls : Array Slot) (x2 : Int32) (x3 : Int32), lX6_planned_4 z x1 n x2 x3 = some r → bw_I G A s.heap (bw_mW cy a z rows asd sm buf bm th od om ow ca bo la pl to rd hh) H locs → lv_has ls 4 [(0, .ref (a 0)), (1, .int x1), (2, .int x2), (3, .int x3)] → W p l e (bw_rm 1 20) s m [.ref (a 0), .int p1].toArray below meth c H locs 0 0 Q (F0 m 4 ls []) := by
    intro x1 n
    induction n with
    | zero => intro H locs ls x2 x3 h; exact bw_none h
    | succ n ih =>
      intro H locs ls x2 x3 h hI hl
      have h : bX6_planned_4  (lX6_planned_4 z x1 n) z x1 x2 x3 = some r := h
      unfold bX6_planned_4 at h
      refine lv_iload_n hx hb dX6_planned_4 rfl (lv_at hl 3 rfl) ?_
      refine lv_aload_n hx hb dX6_planned_5 rfl (lv_at hl 0 rfl) ?_
      refine bw_get S hK hI 0 0 rfl rfl (by decide) i_X6 f_X6_7 rfl dX6_planned_6 ?_
      refine lv_iload_n hx hb dX6_planned_9 rfl (lv_at hl 1 rfl) ?_
      obtain ⟨r10, hc, h⟩ := bw_b1_e h
      refine bw_callP S hK hZ hI (mX6_at l G cy g x1 r10 hc) Y_X6_at V_X6_at l_X6_39 ⟨(Nat.le_of_ble_eq_true rfl), (Nat.le_of_ble_eq_true rfl)⟩ (rest := [.ref (a 1), .int x3]) (st1 := [.int r10, .ref (a 1), .int x3]) rfl hl.1 rfl rfl (Nat.le_of_ble_eq_true rfl) dX6_planned_10 ⟨Nat.le_refl _, Nat.le_refl _⟩ (fun H locs hI => ?_)
      refine lv_iconst (v := 5) hx hb dX6_planned_13 rfl ?_
      refine lv_iadd hx hb dX6_planned_14 ?_
      obtain ⟨v15, hv, h⟩ := bw_b1_e h
      refine bw_iald hx hb hK hI 1 hv rfl dX6_planned_15 ?_
      refine lv_icmp_ge (tgt := 42) hx hb dX6_planned_16 (by decide) (fun c_16 => ?_) (fun c_16 => ?_)
      · rw [if_pos c_16] at h
        refine lv_iload_n hx hb dX6_planned_42 rfl (lv_at hl 2 rfl) ?_
        subst hQ
        exact bw_iretP S hr hlocks h hI rfl dX6_planned_43
      rw [if_neg c_16] at h
      refine lv_iload_n hx hb dX6_planned_19 rfl (lv_at hl 2 rfl) ?_
      refine lv_aload_n hx hb dX6_planned_20 rfl (lv_at hl 0 rfl) ?_
      refine bw_get S hK hI 0 0 rfl rfl (by decide) i_X6 f_X6_7 rfl dX6_planned_21 ?_
      refine lv_iload_n hx hb dX6_planned_24 rfl (lv_at hl 1 rfl) ?_
      obtain ⟨r25, hc, h⟩ := bw_b1_e h
      refine bw_callP S hK hZ hI (mX6_at l G cy g x1 r25 hc) Y_X6_at V_X6_at l_X6_39 ⟨(Nat.le_of_ble_eq_true rfl), (Nat.le_of_ble_eq_true rfl)⟩ (rest := [.ref (a 1), .int x2]) (st1 := [.int r25, .ref (a 1), .int x2]) rfl hl.1 rfl rfl (Nat.le_of_ble_eq_true rfl) dX6_planned_25 ⟨Nat.le_refl _, Nat.le_refl _⟩ (fun H locs hI => ?_)
      refine lv_bipush (v := 10) hx hb dX6_planned_28 (by decide) ?_
      refine lv_iadd hx hb dX6_planned_30 ?_
      refine lv_iload_n hx hb dX6_planned_31 rfl (lv_at hl 3 rfl) ?_
      refine lv_iadd hx hb dX6_planned_32 ?_
      obtain ⟨v33, hv, h⟩ := bw_b1_e h
      refine bw_iald hx hb hK hI 1 hv rfl dX6_planned_33 ?_
      refine lv_iadd hx hb dX6_planned_34 ?_
      refine lv_topi (fun x2_35 e_35 => ?_)
      have h := bw_let_e h e_35
      clear e_35
      refine lv_istore_n (lv' := [(2, .int x2_35), (0, .ref (a 0)), (1, .int x1), (3, .int x3)]) hx hb dX6_planned_35 rfl hl (by decide) rfl (fun ls hl => ?_)
      obtain ⟨x3_36, e_36⟩ : ∃ y : Int32, y = x3 + 1 := ⟨_, rfl⟩
      have h := bw_let_e h e_36
      refine lv_iinc (v := x3_36) (lv' := [(3, .int x3_36), (2, .int x2_35), (0, .ref (a 0)), (1, .int x1)]) hx hb dX6_planned_36 hl (k := 3) rfl (by rw [e_36]; rfl) (by decide) rfl (fun ls hl => ?_)
      clear e_36
      refine lv_goto (tgt := 4) hx hb dX6_planned_39 (by decide) ?_
      exact ih _ _ _ x2_35 x3_36 h hI (lv_sub hl [2,3,1,0] rfl)
  unfold fX6_planned at h
  refine lv_iconst (v := 0) hx hb dX6_planned_0 rfl ?_
  refine lv_istore_n (lv' := [(2, .int 0), (0, .ref (a 0)), (1, .int p1)]) hx hb dX6_planned_1 rfl hl (by decide) rfl (fun ls hl => ?_)
  refine lv_iconst (v := 0) hx hb dX6_planned_2 rfl ?_
  refine lv_istore_n (lv' := [(3, .int 0), (2, .int 0), (0, .ref (a 0)), (1, .int p1)]) hx hb dX6_planned_3 rfl hl (by decide) rfl (fun ls hl => ?_)
  exact l4 p1 bw_fu _ _ _ 0 0 h hI (lv_sub hl [2,3,1,0] rfl)
set_option maxHeartbeats 4000000 in
set_option maxRecDepth 100000 in
theorem mX6_spent (l : Launch) (G : va_G) (cy : Nat → ClassId) (g : Nat) (a : Nat → Nat) (z : bw_A1) (rows : bw_A1) (asd : bw_A1) (sm : Int32) (buf : bw_A1) (bm : Int32) (th : Int32) (od : bw_A1) (om : Int32) (ow : Int32) (ca : Int32) (bo : Int32) (la : Int32) (pl : Int32) (to : Int32) (rd : bw_A1) (hh : Int64) (p1 : Int32) (r : Int32) (h : fX6_spent z p1 = some r) : bw_M l yX6_spent cX6_spent 4 (some .int) 1 20 G cy g [.ref (a 0), .int p1] (bw_mW cy a z rows asd sm buf bm th od om ow ca bo la pl to rd hh) (some (.int r)) (bw_mW cy a z rows asd sm buf bm th od om ow ca bo la pl to rd hh) := by
  refine bw_ofW (by decide +kernel) RX6 rfl (Nat.le_of_ble_eq_true rfl) ?_
  intro p e s m below meth c ls S hr hlocks hK hZ hI hl
  have hx := S.1
  have hb := S.2.1
  have hown := S.2.2.2.1
  have hts := S.2.2.2.2
  generalize va_A _ s.heap.size = A at hI hZ ⊢
  generalize hQ : MQ below _ _ s 0 0 A = Q
  have hl : lv_has ls 4 [(0, .ref (a 0)), (1, .int p1)] := hl
  have l4 : ∀ (x1 : Int32) (n : Nat) (H : Heap) (locs : List Loc) (ls : Array Slot) (x2 : Int32) (x3 : Int32), lX6_spent_4 z x1 n x2 x3 = some r → bw_I G A s.heap (bw_mW cy a z rows asd sm buf bm th od om ow ca bo la pl to rd hh) H locs → lv_has ls 4 [(0, .ref (a 0)), (1, .int x1), (2, .int x2), (3, .int x3)] → W p l e (bw_rm 1 20) s m [.ref (a 0), .int p1].toArray below meth c H locs 0 0 Q (F0 m 4 ls []) := by
    intro x1 n
    induction n with
    | zero => intro H locs ls x2 x3 h; exact bw_none h
    | succ n ih =>
      intro H locs ls x2 x3 h hI hl
      have h : bX6_spent_4  (lX6_spent_4 z x1 n) z x1 x2 x3 = some r := h
      unfold bX6_spent_4 at h
      refine lv_iload_n hx hb dX6_spent_4 rfl (lv_at hl 3 rfl) ?_
      refine lv_aload_n hx hb dX6_spent_5 rfl (lv_at hl 0 rfl) ?_
      refine bw_get S hK hI 0 0 rfl rfl (by decide) i_X6 f_X6_7 rfl dX6_spent_6 ?_
      refine lv_iload_n hx hb dX6_spent_9 rfl (lv_at hl 1 rfl) ?_
      obtain ⟨r10, hc, h⟩ := bw_b1_e h
      refine bw_callP S hK hZ hI (mX6_at l G cy g x1 r10 hc) Y_X6_at V_X6_at l_X6_39 ⟨(Nat.le_of_ble_eq_true rfl), (Nat.le_of_ble_eq_true rfl)⟩ (rest := [.ref (a 1), .int x3]) (st1 := [.int r10, .ref (a 1), .int x3]) rfl hl.1 rfl rfl (Nat.le_of_ble_eq_true rfl) dX6_spent_10 ⟨Nat.le_refl _, Nat.le_refl _⟩ (fun H locs hI => ?_)
      refine lv_bipush (v := 6) hx hb dX6_spent_13 (by decide) ?_
      refine lv_iadd hx hb dX6_spent_15 ?_
      obtain ⟨v16, hv, h⟩ := bw_b1_e h
      refine bw_iald hx hb hK hI 1 hv rfl dX6_spent_16 ?_
      refine lv_icmp_ge (tgt := 43) hx hb dX6_spent_17 (by decide) (fun c_17 => ?_) (fun c_17 => ?_)
      · rw [if_pos c_17] at h
        refine lv_iload_n hx hb dX6_spent_43 rfl (lv_at hl 2 rfl) ?_
        subst hQ
        exact bw_iretP S hr hlocks h hI rfl dX6_spent_44
      rw [if_neg c_17] at h
      refine lv_iload_n hx hb dX6_spent_20 rfl (lv_at hl 2 rfl) ?_
      refine lv_aload_n hx hb dX6_spent_21 rfl (lv_at hl 0 rfl) ?_
      refine bw_get S hK hI 0 0 rfl rfl (by decide) i_X6 f_X6_7 rfl dX6_spent_22 ?_
      refine lv_iload_n hx hb dX6_spent_25 rfl (lv_at hl 1 rfl) ?_
      obtain ⟨r26, hc, h⟩ := bw_b1_e h
      refine bw_callP S hK hZ hI (mX6_at l G cy g x1 r26 hc) Y_X6_at V_X6_at l_X6_39 ⟨(Nat.le_of_ble_eq_true rfl), (Nat.le_of_ble_eq_true rfl)⟩ (rest := [.ref (a 1), .int x2]) (st1 := [.int r26, .ref (a 1), .int x2]) rfl hl.1 rfl rfl (Nat.le_of_ble_eq_true rfl) dX6_spent_26 ⟨Nat.le_refl _, Nat.le_refl _⟩ (fun H locs hI => ?_)
      refine lv_bipush (v := 18) hx hb dX6_spent_29 (by decide) ?_
      refine lv_iadd hx hb dX6_spent_31 ?_
      refine lv_iload_n hx hb dX6_spent_32 rfl (lv_at hl 3 rfl) ?_
      refine lv_iadd hx hb dX6_spent_33 ?_
      obtain ⟨v34, hv, h⟩ := bw_b1_e h
      refine bw_iald hx hb hK hI 1 hv rfl dX6_spent_34 ?_
      refine lv_iadd hx hb dX6_spent_35 ?_
      refine lv_topi (fun x2_36 e_36 => ?_)
      have h := bw_let_e h e_36
      clear e_36
      refine lv_istore_n (lv' := [(2, .int x2_36), (0, .ref (a 0)), (1, .int x1), (3, .int x3)]) hx hb dX6_spent_36 rfl hl (by decide) rfl (fun ls hl => ?_)
      obtain ⟨x3_37, e_37⟩ : ∃ y : Int32, y = x3 + 1 := ⟨_, rfl⟩
      have h := bw_let_e h e_37
      refine lv_iinc (v := x3_37) (lv' := [(3, .int x3_37), (2, .int x2_36), (0, .ref (a 0)), (1, .int x1)]) hx hb dX6_spent_37 hl (k := 3) rfl (by rw [e_37]; rfl) (by decide) rfl (fun ls hl => ?_)
      clear e_37
      refine lv_goto (tgt := 4) hx hb dX6_spent_40 (by decide) ?_
      exact ih _ _ _ x2_36 x3_37 h hI (lv_sub hl [2,3,1,0] rfl)
  unfold fX6_spent at h
  refine lv_iconst (v := 0) hx hb dX6_spent_0 rfl ?_
  refine lv_istore_n (lv' := [(2, .int 0), (0, .ref (a 0)), (1, .int p1)]) hx hb dX6_spent_1 rfl hl (by decide) rfl (fun ls hl => ?_)
  refine lv_iconst (v := 0) hx hb dX6_spent_2 rfl ?_
  refine lv_istore_n (lv' := [(3, .int 0), (2, .int 0), (0, .ref (a 0)), (1, .int p1)]) hx hb dX6_spent_3 rfl hl (by decide) rfl (fun ls hl => ?_)
  exact l4 p1 bw_fu _ _ _ 0 0 h hI (lv_sub hl [2,3,1,0] rfl)
set_option maxHeartbeats 4000000 in
set_option maxRecDepth 100000 in
theorem mX6_projectOf (l : Launch) (G : va_G) (cy : Nat → ClassId) (g : Nat) (a : Nat → Nat) (z : bw_A1) (rows : bw_A1) (asd : bw_A1) (sm : Int32) (buf : bw_A1) (bm : Int32) (th : Int32) (od : bw_A1) (om : Int32) (ow : Int32) (ca : Int32) (bo : Int32) (la : Int32) (pl : Int32) (to : Int32) (rd : bw_A1) (hh : Int64) (p1 : Int32) (p2 : Int32) (r : Int32) (h : fX6_projectOf z p1 p2 = some r) : bw_M l yX6_projectOf cX6_projectOf 4 (some .int) 3 64 G cy g [.ref (a 0), .int p1, .int p2] (bw_mW cy a z rows asd sm buf bm th od om ow ca bo la pl to rd hh) (some (.int r)) (bw_mW cy a z rows asd sm buf bm th od om ow ca bo la pl to rd hh) := by
  refine bw_ofW (by decide +kernel) RX6 rfl (Nat.le_of_ble_eq_true rfl) ?_
  intro p e s m below meth c ls S hr hlocks hK hZ hI hl
  have hx := S.1
  have hb := S.2.1
  have hown := S.2.2.2.1
  have hts := S.2.2.2.2
  generalize va_A _ s.heap.size = A at hI hZ ⊢
  generalize hQ : MQ below _ _ s 0 0 A = Q
  have hl : lv_has ls 4 [(0, .ref (a 0)), (1, .int p1), (2, .int p2)] := hl
  have j76 : ∀ (x2 : Int32) (x3 : Int32) (H : Heap) (locs : List Loc) (ls : Array Slot), jX6_projectOf_76 z x2 x3 = some r → bw_I G A s.heap (bw_mW cy a z rows asd sm buf bm th od om ow ca bo la pl to rd hh) H locs → lv_has ls 4 [(0, .ref (a 0)), (2, .int x2), (3, .int x3)] → W p l e (bw_rm 3 64) s m [.ref (a 0), .int p1, .int p2].toArray below meth c H locs 0 0 Q (F0 m 76 ls []) := by
    intro x2 x3 H locs ls h hI hl
    unfold jX6_projectOf_76 at h
    refine lv_aload_n hx hb dX6_projectOf_76 rfl (lv_at hl 0 rfl) ?_
    refine bw_get S hK hI 0 0 rfl rfl (by decide) i_X6 f_X6_7 rfl dX6_projectOf_77 ?_
    refine lv_iload_n hx hb dX6_projectOf_80 rfl (lv_at hl 2 rfl) ?_
    refine lv_iload_n hx hb dX6_projectOf_81 rfl (lv_at hl 1 rfl) ?_
    refine lv_iadd hx hb dX6_projectOf_82 ?_
    obtain ⟨v83, hv, h⟩ := bw_b1_e h
    refine bw_iald hx hb hK hI 1 hv rfl dX6_projectOf_83 ?_
    subst hQ
    exact bw_iretP S hr hlocks h hI rfl dX6_projectOf_84
  unfold fX6_projectOf at h
  refine lv_iload_n hx hb dX6_projectOf_0 rfl (lv_at hl 1 rfl) ?_
  obtain ⟨r1, hc, h⟩ := bw_b1_e h
  refine bw_callP S hK hZ hI (mX6_at l G cy g p1 r1 hc) Y_X6_at V_X6_at l_X6_39 ⟨(Nat.le_of_ble_eq_true rfl), (Nat.le_of_ble_eq_true rfl)⟩ (rest := []) (st1 := [.int r1]) rfl hl.1 rfl rfl (Nat.le_of_ble_eq_true rfl) dX6_projectOf_1 ⟨Nat.le_refl _, Nat.le_refl _⟩ (fun H locs hI => ?_)
  refine lv_istore_n (lv' := [(3, .int r1), (0, .ref (a 0)), (1, .int p1), (2, .int p2)]) hx hb dX6_projectOf_4 rfl hl (by decide) rfl (fun ls hl => ?_)
  refine lv_iload_n hx hb dX6_projectOf_5 rfl (lv_at hl 3 rfl) ?_
  by_cases c_6_0 : p2 = 0
  · rw [if_pos c_6_0] at h
    refine lv_tableIn (tgt := 76) hx hb dX6_projectOf_6 (by rw [c_6_0]; decide) (by rw [c_6_0]; decide) (by rw [c_6_0]; rfl) (by decide) ?_
    exact j76 p2 r1 _ _ _ h hI (lv_sub hl [1,3,0] rfl)
  rw [if_neg c_6_0] at h
  by_cases c_6_1 : p2 = 1
  · rw [if_pos c_6_1] at h
    refine lv_tableIn (tgt := 76) hx hb dX6_projectOf_6 (by rw [c_6_1]; decide) (by rw [c_6_1]; decide) (by rw [c_6_1]; rfl) (by decide) ?_
    exact j76 p2 r1 _ _ _ h hI (lv_sub hl [1,3,0] rfl)
  rw [if_neg c_6_1] at h
  by_cases c_6_2 : p2 = 2
  · rw [if_pos c_6_2] at h
    refine lv_tableIn (tgt := 76) hx hb dX6_projectOf_6 (by rw [c_6_2]; decide) (by rw [c_6_2]; decide) (by rw [c_6_2]; rfl) (by decide) ?_
    exact j76 p2 r1 _ _ _ h hI (lv_sub hl [1,3,0] rfl)
  rw [if_neg c_6_2] at h
  by_cases c_6_3 : p2 = 3
  · rw [if_pos c_6_3] at h
    refine lv_tableIn (tgt := 76) hx hb dX6_projectOf_6 (by rw [c_6_3]; decide) (by rw [c_6_3]; decide) (by rw [c_6_3]; rfl) (by decide) ?_
    exact j76 p2 r1 _ _ _ h hI (lv_sub hl [1,3,0] rfl)
  rw [if_neg c_6_3] at h
  by_cases c_6_4 : p2 = 4
  · rw [if_pos c_6_4] at h
    refine lv_tableIn (tgt := 85) hx hb dX6_projectOf_6 (by rw [c_6_4]; decide) (by rw [c_6_4]; decide) (by rw [c_6_4]; rfl) (by decide) ?_
    refine lv_aload_n hx hb dX6_projectOf_85 rfl (lv_at hl 1 rfl) ?_
    refine lv_iload_n hx hb dX6_projectOf_86 rfl (lv_at hl 2 rfl) ?_
    obtain ⟨r87, hc, h⟩ := bw_b1_e h
    refine bw_callV S hK hZ hI (mX6_owedBy l G cy g a z rows asd sm buf bm th od om ow ca bo la pl to rd hh p1 r87 hc) Y_X6_owedBy V_X6_owedBy l_X6_170 ⟨(Nat.le_of_ble_eq_true rfl), (Nat.le_of_ble_eq_true rfl)⟩ (q0 := 0) rfl rfl rfl (ws' := (bw_mW cy a z rows asd sm buf bm th od om ow ca bo la pl to rd hh)) (bw_pS _) (bw_pS' _) rfl rfl hl.1 (rest := []) (st1 := [.int r87]) rfl rfl (Nat.le_of_ble_eq_true rfl) dX6_projectOf_87 ⟨Nat.le_refl _, Nat.le_refl _⟩ (fun H locs hI => ?_)
    subst hQ
    exact bw_iretP S hr hlocks h hI rfl dX6_projectOf_90
  rw [if_neg c_6_4] at h
  by_cases c_6_5 : p2 = 5
  · rw [if_pos c_6_5] at h
    refine lv_tableIn (tgt := 91) hx hb dX6_projectOf_6 (by rw [c_6_5]; decide) (by rw [c_6_5]; decide) (by rw [c_6_5]; rfl) (by decide) ?_
    refine lv_aload_n hx hb dX6_projectOf_91 rfl (lv_at hl 1 rfl) ?_
    refine lv_iload_n hx hb dX6_projectOf_92 rfl (lv_at hl 2 rfl) ?_
    obtain ⟨r93, hc, h⟩ := bw_b1_e h
    refine bw_callV S hK hZ hI (mX6_lentBy l G cy g a z rows asd sm buf bm th od om ow ca bo la pl to rd hh p1 r93 hc) Y_X6_lentBy V_X6_lentBy l_X6_71 ⟨(Nat.le_of_ble_eq_true rfl), (Nat.le_of_ble_eq_true rfl)⟩ (q0 := 0) rfl rfl rfl (ws' := (bw_mW cy a z rows asd sm buf bm th od om ow ca bo la pl to rd hh)) (bw_pS _) (bw_pS' _) rfl rfl hl.1 (rest := []) (st1 := [.int r93]) rfl rfl (Nat.le_of_ble_eq_true rfl) dX6_projectOf_93 ⟨Nat.le_refl _, Nat.le_refl _⟩ (fun H locs hI => ?_)
    subst hQ
    exact bw_iretP S hr hlocks h hI rfl dX6_projectOf_96
  rw [if_neg c_6_5] at h
  by_cases c_6_6 : p2 = 6
  · rw [if_pos c_6_6] at h
    refine lv_tableIn (tgt := 97) hx hb dX6_projectOf_6 (by rw [c_6_6]; decide) (by rw [c_6_6]; decide) (by rw [c_6_6]; rfl) (by decide) ?_
    refine lv_aload_n hx hb dX6_projectOf_97 rfl (lv_at hl 1 rfl) ?_
    refine bw_get S hK hI 0 0 rfl rfl (by decide) i_X6 f_X6_7 rfl dX6_projectOf_98 ?_
    refine lv_iload_n hx hb dX6_projectOf_101 rfl (lv_at hl 0 rfl) ?_
    refine lv_iconst (v := 4) hx hb dX6_projectOf_102 rfl ?_
    refine lv_iadd hx hb dX6_projectOf_103 ?_
    obtain ⟨v104, hv, h⟩ := bw_b1_e h
    refine bw_iald hx hb hK hI 1 hv rfl dX6_projectOf_104 ?_
    subst hQ
    exact bw_iretP S hr hlocks h hI rfl dX6_projectOf_105
  rw [if_neg c_6_6] at h
  by_cases c_6_7 : p2 = 7
  · rw [if_pos c_6_7] at h
    refine lv_tableIn (tgt := 106) hx hb dX6_projectOf_6 (by rw [c_6_7]; decide) (by rw [c_6_7]; decide) (by rw [c_6_7]; rfl) (by decide) ?_
    refine lv_aload_n hx hb dX6_projectOf_106 rfl (lv_at hl 1 rfl) ?_
    refine bw_get S hK hI 0 0 rfl rfl (by decide) i_X6 f_X6_7 rfl dX6_projectOf_107 ?_
    refine lv_iload_n hx hb dX6_projectOf_110 rfl (lv_at hl 0 rfl) ?_
    refine lv_iconst (v := 5) hx hb dX6_projectOf_111 rfl ?_
    refine lv_iadd hx hb dX6_projectOf_112 ?_
    obtain ⟨v113, hv, h⟩ := bw_b1_e h
    refine bw_iald hx hb hK hI 1 hv rfl dX6_projectOf_113 ?_
    subst hQ
    exact bw_iretP S hr hlocks h hI rfl dX6_projectOf_114
  rw [if_neg c_6_7] at h
  by_cases c_6_8 : p2 = 8
  · rw [if_pos c_6_8] at h
    refine lv_tableIn (tgt := 115) hx hb dX6_projectOf_6 (by rw [c_6_8]; decide) (by rw [c_6_8]; decide) (by rw [c_6_8]; rfl) (by decide) ?_
    refine lv_aload_n hx hb dX6_projectOf_115 rfl (lv_at hl 1 rfl) ?_
    refine bw_get S hK hI 0 0 rfl rfl (by decide) i_X6 f_X6_7 rfl dX6_projectOf_116 ?_
    refine lv_iload_n hx hb dX6_projectOf_119 rfl (lv_at hl 0 rfl) ?_
    refine lv_bipush (v := 6) hx hb dX6_projectOf_120 (by decide) ?_
    refine lv_iadd hx hb dX6_projectOf_122 ?_
    obtain ⟨v123, hv, h⟩ := bw_b1_e h
    refine bw_iald hx hb hK hI 1 hv rfl dX6_projectOf_123 ?_
    subst hQ
    exact bw_iretP S hr hlocks h hI rfl dX6_projectOf_124
  rw [if_neg c_6_8] at h
  by_cases c_6_9 : p2 = 9
  · rw [if_pos c_6_9] at h
    refine lv_tableIn (tgt := 125) hx hb dX6_projectOf_6 (by rw [c_6_9]; decide) (by rw [c_6_9]; decide) (by rw [c_6_9]; rfl) (by decide) ?_
    refine lv_aload_n hx hb dX6_projectOf_125 rfl (lv_at hl 1 rfl) ?_
    refine bw_get S hK hI 0 0 rfl rfl (by decide) i_X6 f_X6_7 rfl dX6_projectOf_126 ?_
    refine lv_iload_n hx hb dX6_projectOf_129 rfl (lv_at hl 0 rfl) ?_
    refine lv_bipush (v := 7) hx hb dX6_projectOf_130 (by decide) ?_
    refine lv_iadd hx hb dX6_projectOf_132 ?_
    obtain ⟨v133, hv, h⟩ := bw_b1_e h
    refine bw_iald hx hb hK hI 1 hv rfl dX6_projectOf_133 ?_
    subst hQ
    exact bw_iretP S hr hlocks h hI rfl dX6_projectOf_134
  rw [if_neg c_6_9] at h
  by_cases c_6_10 : p2 = 10
  · rw [if_pos c_6_10] at h
    refine lv_tableIn (tgt := 135) hx hb dX6_projectOf_6 (by rw [c_6_10]; decide) (by rw [c_6_10]; decide) (by rw [c_6_10]; rfl) (by decide) ?_
    refine lv_aload_n hx hb dX6_projectOf_135 rfl (lv_at hl 1 rfl) ?_
    refine bw_get S hK hI 0 0 rfl rfl (by decide) i_X6 f_X6_7 rfl dX6_projectOf_136 ?_
    refine lv_iload_n hx hb dX6_projectOf_139 rfl (lv_at hl 0 rfl) ?_
    refine lv_bipush (v := 8) hx hb dX6_projectOf_140 (by decide) ?_
    refine lv_iadd hx hb dX6_projectOf_142 ?_
    obtain ⟨v143, hv, h⟩ := bw_b1_e h
    refine bw_iald hx hb hK hI 1 hv rfl dX6_projectOf_143 ?_
    subst hQ
    exact bw_iretP S hr hlocks h hI rfl dX6_projectOf_144
  rw [if_neg c_6_10] at h
  by_cases c_6_11 : p2 = 11
  · rw [if_pos c_6_11] at h
    refine lv_tableIn (tgt := 145) hx hb dX6_projectOf_6 (by rw [c_6_11]; decide) (by rw [c_6_11]; decide) (by rw [c_6_11]; rfl) (by decide) ?_
    refine lv_aload_n hx hb dX6_projectOf_145 rfl (lv_at hl 1 rfl) ?_
    refine bw_get S hK hI 0 0 rfl rfl (by decide) i_X6 f_X6_7 rfl dX6_projectOf_146 ?_
    refine lv_iload_n hx hb dX6_projectOf_149 rfl (lv_at hl 0 rfl) ?_
    refine lv_bipush (v := 9) hx hb dX6_projectOf_150 (by decide) ?_
    refine lv_iadd hx hb dX6_projectOf_152 ?_
    obtain ⟨v153, hv, h⟩ := bw_b1_e h
    refine bw_iald hx hb hK hI 1 hv rfl dX6_projectOf_153 ?_
    subst hQ
    exact bw_iretP S hr hlocks h hI rfl dX6_projectOf_154
  rw [if_neg c_6_11] at h
  by_cases c_6_12 : p2 = 12
  · rw [if_pos c_6_12] at h
    refine lv_tableIn (tgt := 155) hx hb dX6_projectOf_6 (by rw [c_6_12]; decide) (by rw [c_6_12]; decide) (by rw [c_6_12]; rfl) (by decide) ?_
    refine lv_aload_n hx hb dX6_projectOf_155 rfl (lv_at hl 1 rfl) ?_
    refine lv_iload_n hx hb dX6_projectOf_156 rfl (lv_at hl 2 rfl) ?_
    obtain ⟨r157, hc, h⟩ := bw_b1_e h
    refine bw_callV S hK hZ hI (mX6_planned l G cy g a z rows asd sm buf bm th od om ow ca bo la pl to rd hh p1 r157 hc) Y_X6_planned V_X6_planned l_X6_173 ⟨(Nat.le_of_ble_eq_true rfl), (Nat.le_of_ble_eq_true rfl)⟩ (q0 := 0) rfl rfl rfl (ws' := (bw_mW cy a z rows asd sm buf bm th od om ow ca bo la pl to rd hh)) (bw_pS _) (bw_pS' _) rfl rfl hl.1 (rest := []) (st1 := [.int r157]) rfl rfl (Nat.le_of_ble_eq_true rfl) dX6_projectOf_157 ⟨Nat.le_refl _, Nat.le_refl _⟩ (fun H locs hI => ?_)
    subst hQ
    exact bw_iretP S hr hlocks h hI rfl dX6_projectOf_160
  rw [if_neg c_6_12] at h
  by_cases c_6_13 : p2 = 13
  · rw [if_pos c_6_13] at h
    refine lv_tableIn (tgt := 161) hx hb dX6_projectOf_6 (by rw [c_6_13]; decide) (by rw [c_6_13]; decide) (by rw [c_6_13]; rfl) (by decide) ?_
    refine lv_aload_n hx hb dX6_projectOf_161 rfl (lv_at hl 1 rfl) ?_
    refine lv_iload_n hx hb dX6_projectOf_162 rfl (lv_at hl 2 rfl) ?_
    obtain ⟨r163, hc, h⟩ := bw_b1_e h
    refine bw_callV S hK hZ hI (mX6_spent l G cy g a z rows asd sm buf bm th od om ow ca bo la pl to rd hh p1 r163 hc) Y_X6_spent V_X6_spent l_X6_176 ⟨(Nat.le_of_ble_eq_true rfl), (Nat.le_of_ble_eq_true rfl)⟩ (q0 := 0) rfl rfl rfl (ws' := (bw_mW cy a z rows asd sm buf bm th od om ow ca bo la pl to rd hh)) (bw_pS _) (bw_pS' _) rfl rfl hl.1 (rest := []) (st1 := [.int r163]) rfl rfl (Nat.le_of_ble_eq_true rfl) dX6_projectOf_163 ⟨Nat.le_refl _, Nat.le_refl _⟩ (fun H locs hI => ?_)
    subst hQ
    exact bw_iretP S hr hlocks h hI rfl dX6_projectOf_166
  rw [if_neg c_6_13] at h
  have t_0 := bw_nei c_6_0
  have t_1 := bw_nei c_6_1
  have t_2 := bw_nei c_6_2
  have t_3 := bw_nei c_6_3
  have t_4 := bw_nei c_6_4
  have t_5 := bw_nei c_6_5
  have t_6 := bw_nei c_6_6
  have t_7 := bw_nei c_6_7
  have t_8 := bw_nei c_6_8
  have t_9 := bw_nei c_6_9
  have t_10 := bw_nei c_6_10
  have t_11 := bw_nei c_6_11
  have t_12 := bw_nei c_6_12
  have t_13 := bw_nei c_6_13
  refine lv_tableOut (tgt := 167) hx hb dX6_projectOf_6 (bw_out14 t_0 t_1 t_2 t_3 t_4 t_5 t_6 t_7 t_8 t_9 t_10 t_11 t_12 t_13) (by decide) ?_
  refine lv_aload_n hx hb dX6_projectOf_167 rfl (lv_at hl 1 rfl) ?_
  refine lv_iload_n hx hb dX6_projectOf_168 rfl (lv_at hl 2 rfl) ?_
  obtain ⟨r169, hc, h⟩ := bw_b1_e h
  refine bw_callV S hK hZ hI (mX6_canLend l G cy g a z rows asd sm buf bm th od om ow ca bo la pl to rd hh p1 r169 hc) Y_X6_canLend V_X6_canLend l_X6_68 ⟨(Nat.le_of_ble_eq_true rfl), (Nat.le_of_ble_eq_true rfl)⟩ (q0 := 0) rfl rfl rfl (ws' := (bw_mW cy a z rows asd sm buf bm th od om ow ca bo la pl to rd hh)) (bw_pS _) (bw_pS' _) rfl rfl hl.1 (rest := []) (st1 := [.int r169]) rfl rfl (Nat.le_of_ble_eq_true rfl) dX6_projectOf_169 ⟨Nat.le_refl _, Nat.le_refl _⟩ (fun H locs hI => ?_)
  subst hQ
  exact bw_iretP S hr hlocks h hI rfl dX6_projectOf_172
set_option maxHeartbeats 4000000 in
set_option maxRecDepth 100000 in
theorem mX6_project (l : Launch) (G : va_G) (cy : Nat → ClassId) (g : Nat) (a : Nat → Nat) (z : bw_A1) (rows : bw_A1) (asd : bw_A1) (sm : Int32) (buf : bw_A1) (bm : Int32) (th : Int32) (od : bw_A1) (om : Int32) (ow : Int32) (ca : Int32) (bo : Int32) (la : Int32) (pl : Int32) (to : Int32) (rd : bw_A1) (hh : Int64) (p1 : Int32) (p2 : Int32) (r : Int32) (th' : Int32) (h : fX6_project z th p1 p2 = some (r, th')) : bw_M l yX6_project cX6_project 3 (some .int) 4 87 G cy g [.ref (a 0), .int p1, .int p2] (bw_mW cy a z rows asd sm buf bm th od om ow ca bo la pl to rd hh) (some (.int r)) (bw_mW cy a z rows asd sm buf bm th' od om ow ca bo la pl to rd hh) := by
  refine bw_ofW (by decide +kernel) RX6 rfl (Nat.le_of_ble_eq_true rfl) ?_
  intro p e s m below meth c ls S hr hlocks hK hZ hI hl
  have hx := S.1
  have hb := S.2.1
  have hown := S.2.2.2.1
  have hts := S.2.2.2.2
  generalize va_A _ s.heap.size = A at hI hZ ⊢
  generalize hQ : MQ below _ _ s 0 0 A = Q
  have hl : lv_has ls 3 [(0, .ref (a 0)), (1, .int p1), (2, .int p2)] := hl
  unfold fX6_project at h
  refine lv_aload_n hx hb dX6_project_0 rfl (lv_at hl 0 rfl) ?_
  refine lv_iconst (v := 0) hx hb dX6_project_1 rfl ?_
  refine bw_put S hK hI 0 6 (ws' := (bw_mW cy a z rows asd sm buf bm 0 od om ow ca bo la pl to rd hh)) tyX6 tyX6_ok nmX6 rfl rfl (by decide) i_X6 f_X6_28 rfl rfl rfl rfl (Nat.le_of_ble_eq_true rfl) rfl dX6_project_2 (fun H locs hI => ?_)
  refine lv_aload_n hx hb dX6_project_5 rfl (lv_at hl 0 rfl) ?_
  refine lv_iload_n hx hb dX6_project_6 rfl (lv_at hl 1 rfl) ?_
  obtain ⟨r7, hc, h⟩ := bw_b1_e h
  refine bw_callV S hK hZ hI (mX6_isProject l G cy g a z rows asd sm buf bm 0 od om ow ca bo la pl to rd hh p1 r7 hc) Y_X6_isProject V_X6_isProject l_X6_123 ⟨(Nat.le_of_ble_eq_true rfl), (Nat.le_of_ble_eq_true rfl)⟩ (q0 := 0) rfl rfl rfl (ws' := (bw_mW cy a z rows asd sm buf bm 0 od om ow ca bo la pl to rd hh)) (bw_pS _) (bw_pS' _) rfl rfl hl.1 (rest := []) (st1 := [.int r7]) rfl rfl (Nat.le_of_ble_eq_true rfl) dX6_project_7 ⟨Nat.le_refl _, Nat.le_refl _⟩ (fun H locs hI => ?_)
  refine lv_if_ne (tgt := 19) hx hb dX6_project_10 (by decide) (fun c_10 => ?_) (fun c_10 => ?_)
  · rw [if_neg c_10] at h
    refine lv_iload_n hx hb dX6_project_19 rfl (lv_at hl 2 rfl) ?_
    refine lv_iconst (v := 0) hx hb dX6_project_20 rfl ?_
    refine lv_bipush (v := 14) hx hb dX6_project_21 (by decide) ?_
    obtain ⟨r23, hc, h⟩ := bw_b1_e h
    refine bw_callP S hK hZ hI (mX6_in l G cy g p2 0 14 r23 hc) Y_X6_in V_X6_in l_X6_35 ⟨(Nat.le_of_ble_eq_true rfl), (Nat.le_of_ble_eq_true rfl)⟩ (rest := []) (st1 := [.int r23]) rfl hl.1 rfl rfl (Nat.le_of_ble_eq_true rfl) dX6_project_23 ⟨Nat.le_refl _, Nat.le_refl _⟩ (fun H locs hI => ?_)
    refine lv_if_eq (tgt := 38) hx hb dX6_project_26 (by decide) (fun c_26 => ?_) (fun c_26 => ?_)
    · rw [if_pos c_26] at h
      refine lv_aload_n hx hb dX6_project_38 rfl (lv_at hl 0 rfl) ?_
      refine lv_iconst (v := 2) hx hb dX6_project_39 rfl ?_
      obtain ⟨r40, th_40, hc, h⟩ := bw_b2_e h
      refine bw_callV S hK hZ hI (mX6_fails l G cy g a z rows asd sm buf bm 0 od om ow ca bo la pl to rd hh 2 r40 th_40 hc) Y_X6_fails V_X6_fails l_X6_114 ⟨(Nat.le_of_ble_eq_true rfl), (Nat.le_of_ble_eq_true rfl)⟩ (q0 := 0) rfl rfl rfl (ws' := (bw_mW cy a z rows asd sm buf bm th_40 od om ow ca bo la pl to rd hh)) (bw_pS _) (bw_pS' _) rfl rfl hl.1 (rest := []) (st1 := [.int r40]) rfl rfl (Nat.le_of_ble_eq_true rfl) dX6_project_40 ⟨Nat.le_refl _, Nat.le_refl _⟩ (fun H locs hI => ?_)
      subst hQ
      exact bw_iret (rr := (r, th')) S hr hlocks h (fun q : Int32 => (bw_mW cy a z rows asd sm buf bm q od om ow ca bo la pl to rd hh)) hI rfl dX6_project_43
    rw [if_neg c_26] at h
    refine lv_aload_n hx hb dX6_project_29 rfl (lv_at hl 0 rfl) ?_
    refine lv_iload_n hx hb dX6_project_30 rfl (lv_at hl 1 rfl) ?_
    refine lv_iload_n hx hb dX6_project_31 rfl (lv_at hl 2 rfl) ?_
    obtain ⟨r32, hc, h⟩ := bw_b1_e h
    refine bw_callV S hK hZ hI (mX6_projectOf l G cy g a z rows asd sm buf bm 0 od om ow ca bo la pl to rd hh p1 p2 r32 hc) Y_X6_projectOf V_X6_projectOf l_X6_179 ⟨(Nat.le_of_ble_eq_true rfl), (Nat.le_of_ble_eq_true rfl)⟩ (q0 := 0) rfl rfl rfl (ws' := (bw_mW cy a z rows asd sm buf bm 0 od om ow ca bo la pl to rd hh)) (bw_pS _) (bw_pS' _) rfl rfl hl.1 (rest := []) (st1 := [.int r32]) rfl rfl (Nat.le_of_ble_eq_true rfl) dX6_project_32 ⟨Nat.le_refl _, Nat.le_refl _⟩ (fun H locs hI => ?_)
    refine lv_goto (tgt := 43) hx hb dX6_project_35 (by decide) ?_
    subst hQ
    exact bw_iret (rr := (r, th')) S hr hlocks h (fun q : Int32 => (bw_mW cy a z rows asd sm buf bm q od om ow ca bo la pl to rd hh)) hI rfl dX6_project_43
  rw [if_pos c_10] at h
  refine lv_aload_n hx hb dX6_project_13 rfl (lv_at hl 0 rfl) ?_
  refine lv_iconst (v := 1) hx hb dX6_project_14 rfl ?_
  obtain ⟨r15, th_15, hc, h⟩ := bw_b2_e h
  refine bw_callV S hK hZ hI (mX6_fails l G cy g a z rows asd sm buf bm 0 od om ow ca bo la pl to rd hh 1 r15 th_15 hc) Y_X6_fails V_X6_fails l_X6_114 ⟨(Nat.le_of_ble_eq_true rfl), (Nat.le_of_ble_eq_true rfl)⟩ (q0 := 0) rfl rfl rfl (ws' := (bw_mW cy a z rows asd sm buf bm th_15 od om ow ca bo la pl to rd hh)) (bw_pS _) (bw_pS' _) rfl rfl hl.1 (rest := []) (st1 := [.int r15]) rfl rfl (Nat.le_of_ble_eq_true rfl) dX6_project_15 ⟨Nat.le_refl _, Nat.le_refl _⟩ (fun H locs hI => ?_)
  subst hQ
  exact bw_iret (rr := (r, th')) S hr hlocks h (fun q : Int32 => (bw_mW cy a z rows asd sm buf bm q od om ow ca bo la pl to rd hh)) hI rfl dX6_project_18
set_option maxHeartbeats 4000000 in
set_option maxRecDepth 100000 in
theorem mX6_taskOf (l : Launch) (G : va_G) (cy : Nat → ClassId) (g : Nat) (a : Nat → Nat) (z : bw_A1) (rows : bw_A1) (asd : bw_A1) (sm : Int32) (buf : bw_A1) (bm : Int32) (th : Int32) (od : bw_A1) (om : Int32) (ow : Int32) (ca : Int32) (bo : Int32) (la : Int32) (pl : Int32) (to : Int32) (rd : bw_A1) (hh : Int64) (p1 : Int32) (p2 : Int32) (p3 : Int32) (r : Int32) (h : fX6_taskOf z p1 p2 p3 = some r) : bw_M l yX6_taskOf cX6_taskOf 5 (some .int) 1 20 G cy g [.ref (a 0), .int p1, .int p2, .int p3] (bw_mW cy a z rows asd sm buf bm th od om ow ca bo la pl to rd hh) (some (.int r)) (bw_mW cy a z rows asd sm buf bm th od om ow ca bo la pl to rd hh) := by
  refine bw_ofW (by decide +kernel) RX6 rfl (Nat.le_of_ble_eq_true rfl) ?_
  intro p e s m below meth c ls S hr hlocks hK hZ hI hl
  have hx := S.1
  have hb := S.2.1
  have hown := S.2.2.2.1
  have hts := S.2.2.2.2
  generalize va_A _ s.heap.size = A at hI hZ ⊢
  generalize hQ : MQ below _ _ s 0 0 A = Q
  have hl : lv_has ls 5 [(0, .ref (a 0)), (1, .int p1), (2, .int p2), (3, .int p3)] := hl
  unfold fX6_taskOf at h
  refine lv_iload_n hx hb dX6_taskOf_0 rfl (lv_at hl 1 rfl) ?_
  obtain ⟨r1, hc, h⟩ := bw_b1_e h
  refine bw_callP S hK hZ hI (mX6_at l G cy g p1 r1 hc) Y_X6_at V_X6_at l_X6_39 ⟨(Nat.le_of_ble_eq_true rfl), (Nat.le_of_ble_eq_true rfl)⟩ (rest := []) (st1 := [.int r1]) rfl hl.1 rfl rfl (Nat.le_of_ble_eq_true rfl) dX6_taskOf_1 ⟨Nat.le_refl _, Nat.le_refl _⟩ (fun H locs hI => ?_)
  refine lv_istore (lv' := [(4, .int r1), (0, .ref (a 0)), (1, .int p1), (2, .int p2), (3, .int p3)]) hx hb dX6_taskOf_4 hl (by decide) rfl (fun ls hl => ?_)
  refine lv_iload_n hx hb dX6_taskOf_6 rfl (lv_at hl 4 rfl) ?_
  refine lv_iconst (v := 2) hx hb dX6_taskOf_7 rfl ?_
  refine lv_icmp_ge (tgt := 43) hx hb dX6_taskOf_8 (by decide) (fun c_8 => ?_) (fun c_8 => ?_)
  · rw [if_pos c_8] at h
    refine lv_aload_n hx hb dX6_taskOf_43 rfl (lv_at hl 1 rfl) ?_
    refine bw_get S hK hI 0 0 rfl rfl (by decide) i_X6 f_X6_7 rfl dX6_taskOf_44 ?_
    refine lv_iload hx hb dX6_taskOf_47 (lv_at hl 0 rfl) ?_
    refine lv_bipush (v := 26) hx hb dX6_taskOf_49 (by decide) ?_
    refine lv_iadd hx hb dX6_taskOf_51 ?_
    refine lv_iconst (v := 4) hx hb dX6_taskOf_52 rfl ?_
    refine lv_iload_n hx hb dX6_taskOf_53 rfl (lv_at hl 3 rfl) ?_
    refine lv_imul hx hb dX6_taskOf_54 ?_
    refine lv_iadd hx hb dX6_taskOf_55 ?_
    refine lv_iload_n hx hb dX6_taskOf_56 rfl (lv_at hl 4 rfl) ?_
    refine lv_iadd hx hb dX6_taskOf_57 ?_
    refine lv_iconst (v := 2) hx hb dX6_taskOf_58 rfl ?_
    refine lv_isub hx hb dX6_taskOf_59 ?_
    obtain ⟨v60, hv, h⟩ := bw_b1_e h
    refine bw_iald hx hb hK hI 1 hv rfl dX6_taskOf_60 ?_
    subst hQ
    exact bw_iretP S hr hlocks h hI rfl dX6_taskOf_61
  rw [if_neg c_8] at h
  refine lv_iload_n hx hb dX6_taskOf_11 rfl (lv_at hl 4 rfl) ?_
  refine lv_if_ne (tgt := 30) hx hb dX6_taskOf_12 (by decide) (fun c_12 => ?_) (fun c_12 => ?_)
  · rw [if_neg c_12] at h
    refine lv_aload_n hx hb dX6_taskOf_30 rfl (lv_at hl 1 rfl) ?_
    refine bw_get S hK hI 0 0 rfl rfl (by decide) i_X6 f_X6_7 rfl dX6_taskOf_31 ?_
    refine lv_iload hx hb dX6_taskOf_34 (lv_at hl 0 rfl) ?_
    refine lv_bipush (v := 18) hx hb dX6_taskOf_36 (by decide) ?_
    refine lv_iadd hx hb dX6_taskOf_38 ?_
    refine lv_iload_n hx hb dX6_taskOf_39 rfl (lv_at hl 3 rfl) ?_
    refine lv_iadd hx hb dX6_taskOf_40 ?_
    obtain ⟨v41, hv, h⟩ := bw_b1_e h
    refine bw_iald hx hb hK hI 1 hv rfl dX6_taskOf_41 ?_
    subst hQ
    exact bw_iretP S hr hlocks h hI rfl dX6_taskOf_42
  rw [if_pos c_12] at h
  refine lv_aload_n hx hb dX6_taskOf_15 rfl (lv_at hl 1 rfl) ?_
  refine bw_get S hK hI 0 0 rfl rfl (by decide) i_X6 f_X6_7 rfl dX6_taskOf_16 ?_
  refine lv_iload hx hb dX6_taskOf_19 (lv_at hl 0 rfl) ?_
  refine lv_bipush (v := 10) hx hb dX6_taskOf_21 (by decide) ?_
  refine lv_iadd hx hb dX6_taskOf_23 ?_
  refine lv_iload_n hx hb dX6_taskOf_24 rfl (lv_at hl 3 rfl) ?_
  refine lv_iadd hx hb dX6_taskOf_25 ?_
  obtain ⟨v26, hv, h⟩ := bw_b1_e h
  refine bw_iald hx hb hK hI 1 hv rfl dX6_taskOf_26 ?_
  refine lv_goto (tgt := 42) hx hb dX6_taskOf_27 (by decide) ?_
  subst hQ
  exact bw_iretP S hr hlocks h hI rfl dX6_taskOf_42
set_option maxHeartbeats 4000000 in
set_option maxRecDepth 100000 in
theorem mX6_task (l : Launch) (G : va_G) (cy : Nat → ClassId) (g : Nat) (a : Nat → Nat) (z : bw_A1) (rows : bw_A1) (asd : bw_A1) (sm : Int32) (buf : bw_A1) (bm : Int32) (th : Int32) (od : bw_A1) (om : Int32) (ow : Int32) (ca : Int32) (bo : Int32) (la : Int32) (pl : Int32) (to : Int32) (rd : bw_A1) (hh : Int64) (p1 : Int32) (p2 : Int32) (p3 : Int32) (r : Int32) (th' : Int32) (h : fX6_task z th p1 p2 p3 = some (r, th')) : bw_M l yX6_task cX6_task 4 (some .int) 2 44 G cy g [.ref (a 0), .int p1, .int p2, .int p3] (bw_mW cy a z rows asd sm buf bm th od om ow ca bo la pl to rd hh) (some (.int r)) (bw_mW cy a z rows asd sm buf bm th' od om ow ca bo la pl to rd hh) := by
  refine bw_ofW (by decide +kernel) RX6 rfl (Nat.le_of_ble_eq_true rfl) ?_
  intro p e s m below meth c ls S hr hlocks hK hZ hI hl
  have hx := S.1
  have hb := S.2.1
  have hown := S.2.2.2.1
  have hts := S.2.2.2.2
  generalize va_A _ s.heap.size = A at hI hZ ⊢
  generalize hQ : MQ below _ _ s 0 0 A = Q
  have hl : lv_has ls 4 [(0, .ref (a 0)), (1, .int p1), (2, .int p2), (3, .int p3)] := hl
  have j34 : ∀ (th : Int32) (H : Heap) (locs : List Loc) (ls : Array Slot), jX6_task_34 z th = some (r, th') → bw_I G A s.heap (bw_mW cy a z rows asd sm buf bm th od om ow ca bo la pl to rd hh) H locs → lv_has ls 4 [(0, .ref (a 0))] → W p l e (bw_rm 2 44) s m [.ref (a 0), .int p1, .int p2, .int p3].toArray below meth c H locs 0 0 Q (F0 m 34 ls []) := by
    intro th H locs ls h hI hl
    unfold jX6_task_34 at h
    refine lv_aload_n hx hb dX6_task_34 rfl (lv_at hl 0 rfl) ?_
    refine lv_iconst (v := 1) hx hb dX6_task_35 rfl ?_
    obtain ⟨r36, th_36, hc, h⟩ := bw_b2_e h
    refine bw_callV S hK hZ hI (mX6_fails l G cy g a z rows asd sm buf bm th od om ow ca bo la pl to rd hh 1 r36 th_36 hc) Y_X6_fails V_X6_fails l_X6_114 ⟨(Nat.le_of_ble_eq_true rfl), (Nat.le_of_ble_eq_true rfl)⟩ (q0 := 0) rfl rfl rfl (ws' := (bw_mW cy a z rows asd sm buf bm th_36 od om ow ca bo la pl to rd hh)) (bw_pS _) (bw_pS' _) rfl rfl hl.1 (rest := []) (st1 := [.int r36]) rfl rfl (Nat.le_of_ble_eq_true rfl) dX6_task_36 ⟨Nat.le_refl _, Nat.le_refl _⟩ (fun H locs hI => ?_)
    subst hQ
    exact bw_iret (rr := (r, th')) S hr hlocks h (fun q : Int32 => (bw_mW cy a z rows asd sm buf bm q od om ow ca bo la pl to rd hh)) hI rfl dX6_task_39
  unfold fX6_task at h
  refine lv_aload_n hx hb dX6_task_0 rfl (lv_at hl 0 rfl) ?_
  refine lv_iconst (v := 0) hx hb dX6_task_1 rfl ?_
  refine bw_put S hK hI 0 6 (ws' := (bw_mW cy a z rows asd sm buf bm 0 od om ow ca bo la pl to rd hh)) tyX6 tyX6_ok nmX6 rfl rfl (by decide) i_X6 f_X6_28 rfl rfl rfl rfl (Nat.le_of_ble_eq_true rfl) rfl dX6_task_2 (fun H locs hI => ?_)
  refine lv_aload_n hx hb dX6_task_5 rfl (lv_at hl 0 rfl) ?_
  refine lv_iload_n hx hb dX6_task_6 rfl (lv_at hl 1 rfl) ?_
  obtain ⟨r7, hc, h⟩ := bw_b1_e h
  refine bw_callV S hK hZ hI (mX6_isProject l G cy g a z rows asd sm buf bm 0 od om ow ca bo la pl to rd hh p1 r7 hc) Y_X6_isProject V_X6_isProject l_X6_123 ⟨(Nat.le_of_ble_eq_true rfl), (Nat.le_of_ble_eq_true rfl)⟩ (q0 := 0) rfl rfl rfl (ws' := (bw_mW cy a z rows asd sm buf bm 0 od om ow ca bo la pl to rd hh)) (bw_pS _) (bw_pS' _) rfl rfl hl.1 (rest := []) (st1 := [.int r7]) rfl rfl (Nat.le_of_ble_eq_true rfl) dX6_task_7 ⟨Nat.le_refl _, Nat.le_refl _⟩ (fun H locs hI => ?_)
  refine lv_if_eq (tgt := 34) hx hb dX6_task_10 (by decide) (fun c_10 => ?_) (fun c_10 => ?_)
  · rw [if_pos c_10] at h
    exact j34 0 _ _ _ h hI (lv_sub hl [0] rfl)
  rw [if_neg c_10] at h
  refine lv_iload_n hx hb dX6_task_13 rfl (lv_at hl 2 rfl) ?_
  refine lv_iconst (v := 0) hx hb dX6_task_14 rfl ?_
  refine lv_aload_n hx hb dX6_task_15 rfl (lv_at hl 0 rfl) ?_
  refine bw_get S hK hI 0 0 rfl rfl (by decide) i_X6 f_X6_7 rfl dX6_task_16 ?_
  refine lv_iload_n hx hb dX6_task_19 rfl (lv_at hl 1 rfl) ?_
  obtain ⟨r20, hc, h⟩ := bw_b1_e h
  refine bw_callP S hK hZ hI (mX6_at l G cy g p1 r20 hc) Y_X6_at V_X6_at l_X6_39 ⟨(Nat.le_of_ble_eq_true rfl), (Nat.le_of_ble_eq_true rfl)⟩ (rest := [.ref (a 1), .int 0, .int p2]) (st1 := [.int r20, .ref (a 1), .int 0, .int p2]) rfl hl.1 rfl rfl (Nat.le_of_ble_eq_true rfl) dX6_task_20 ⟨Nat.le_refl _, Nat.le_refl _⟩ (fun H locs hI => ?_)
  refine lv_iconst (v := 5) hx hb dX6_task_23 rfl ?_
  refine lv_iadd hx hb dX6_task_24 ?_
  obtain ⟨v25, hv, h⟩ := bw_b1_e h
  refine bw_iald hx hb hK hI 1 hv rfl dX6_task_25 ?_
  refine lv_iconst (v := 1) hx hb dX6_task_26 rfl ?_
  refine lv_isub hx hb dX6_task_27 ?_
  obtain ⟨r28, hc, h⟩ := bw_b1_e h
  refine bw_callP S hK hZ hI (mX6_in l G cy g p2 0 (v25 - 1) r28 hc) Y_X6_in V_X6_in l_X6_35 ⟨(Nat.le_of_ble_eq_true rfl), (Nat.le_of_ble_eq_true rfl)⟩ (rest := []) (st1 := [.int r28]) rfl hl.1 rfl rfl (Nat.le_of_ble_eq_true rfl) dX6_task_28 ⟨Nat.le_refl _, Nat.le_refl _⟩ (fun H locs hI => ?_)
  refine lv_if_ne (tgt := 40) hx hb dX6_task_31 (by decide) (fun c_31 => ?_) (fun c_31 => ?_)
  · rw [if_neg c_31] at h
    refine lv_iload_n hx hb dX6_task_40 rfl (lv_at hl 3 rfl) ?_
    refine lv_iconst (v := 0) hx hb dX6_task_41 rfl ?_
    refine lv_iconst (v := 5) hx hb dX6_task_42 rfl ?_
    obtain ⟨r43, hc, h⟩ := bw_b1_e h
    refine bw_callP S hK hZ hI (mX6_in l G cy g p3 0 5 r43 hc) Y_X6_in V_X6_in l_X6_35 ⟨(Nat.le_of_ble_eq_true rfl), (Nat.le_of_ble_eq_true rfl)⟩ (rest := []) (st1 := [.int r43]) rfl hl.1 rfl rfl (Nat.le_of_ble_eq_true rfl) dX6_task_43 ⟨Nat.le_refl _, Nat.le_refl _⟩ (fun H locs hI => ?_)
    refine lv_if_eq (tgt := 59) hx hb dX6_task_46 (by decide) (fun c_46 => ?_) (fun c_46 => ?_)
    · rw [if_pos c_46] at h
      refine lv_aload_n hx hb dX6_task_59 rfl (lv_at hl 0 rfl) ?_
      refine lv_iconst (v := 2) hx hb dX6_task_60 rfl ?_
      obtain ⟨r61, th_61, hc, h⟩ := bw_b2_e h
      refine bw_callV S hK hZ hI (mX6_fails l G cy g a z rows asd sm buf bm 0 od om ow ca bo la pl to rd hh 2 r61 th_61 hc) Y_X6_fails V_X6_fails l_X6_114 ⟨(Nat.le_of_ble_eq_true rfl), (Nat.le_of_ble_eq_true rfl)⟩ (q0 := 0) rfl rfl rfl (ws' := (bw_mW cy a z rows asd sm buf bm th_61 od om ow ca bo la pl to rd hh)) (bw_pS _) (bw_pS' _) rfl rfl hl.1 (rest := []) (st1 := [.int r61]) rfl rfl (Nat.le_of_ble_eq_true rfl) dX6_task_61 ⟨Nat.le_refl _, Nat.le_refl _⟩ (fun H locs hI => ?_)
      subst hQ
      exact bw_iret (rr := (r, th')) S hr hlocks h (fun q : Int32 => (bw_mW cy a z rows asd sm buf bm q od om ow ca bo la pl to rd hh)) hI rfl dX6_task_64
    rw [if_neg c_46] at h
    refine lv_aload_n hx hb dX6_task_49 rfl (lv_at hl 0 rfl) ?_
    refine lv_iload_n hx hb dX6_task_50 rfl (lv_at hl 1 rfl) ?_
    refine lv_iload_n hx hb dX6_task_51 rfl (lv_at hl 2 rfl) ?_
    refine lv_iload_n hx hb dX6_task_52 rfl (lv_at hl 3 rfl) ?_
    obtain ⟨r53, hc, h⟩ := bw_b1_e h
    refine bw_callV S hK hZ hI (mX6_taskOf l G cy g a z rows asd sm buf bm 0 od om ow ca bo la pl to rd hh p1 p2 p3 r53 hc) Y_X6_taskOf V_X6_taskOf l_X6_182 ⟨(Nat.le_of_ble_eq_true rfl), (Nat.le_of_ble_eq_true rfl)⟩ (q0 := 0) rfl rfl rfl (ws' := (bw_mW cy a z rows asd sm buf bm 0 od om ow ca bo la pl to rd hh)) (bw_pS _) (bw_pS' _) rfl rfl hl.1 (rest := []) (st1 := [.int r53]) rfl rfl (Nat.le_of_ble_eq_true rfl) dX6_task_53 ⟨Nat.le_refl _, Nat.le_refl _⟩ (fun H locs hI => ?_)
    refine lv_goto (tgt := 64) hx hb dX6_task_56 (by decide) ?_
    subst hQ
    exact bw_iret (rr := (r, th')) S hr hlocks h (fun q : Int32 => (bw_mW cy a z rows asd sm buf bm q od om ow ca bo la pl to rd hh)) hI rfl dX6_task_64
  rw [if_pos c_31] at h
  exact j34 0 _ _ _ h hI (lv_sub hl [0] rfl)
set_option maxHeartbeats 4000000 in
set_option maxRecDepth 100000 in
theorem mX6_loan (l : Launch) (G : va_G) (cy : Nat → ClassId) (g : Nat) (a : Nat → Nat) (z : bw_A1) (rows : bw_A1) (asd : bw_A1) (sm : Int32) (buf : bw_A1) (bm : Int32) (th : Int32) (od : bw_A1) (om : Int32) (ow : Int32) (ca : Int32) (bo : Int32) (la : Int32) (pl : Int32) (to : Int32) (rd : bw_A1) (hh : Int64) (p1 : Int32) (p2 : Int32) (r : Int32) (th' : Int32) (h : fX6_loan z th p1 p2 = some (r, th')) : bw_M l yX6_loan cX6_loan 3 (some .int) 1 22 G cy g [.ref (a 0), .int p1, .int p2] (bw_mW cy a z rows asd sm buf bm th od om ow ca bo la pl to rd hh) (some (.int r)) (bw_mW cy a z rows asd sm buf bm th' od om ow ca bo la pl to rd hh) := by
  refine bw_ofW (by decide +kernel) RX6 rfl (Nat.le_of_ble_eq_true rfl) ?_
  intro p e s m below meth c ls S hr hlocks hK hZ hI hl
  have hx := S.1
  have hb := S.2.1
  have hown := S.2.2.2.1
  have hts := S.2.2.2.2
  generalize va_A _ s.heap.size = A at hI hZ ⊢
  generalize hQ : MQ below _ _ s 0 0 A = Q
  have hl : lv_has ls 3 [(0, .ref (a 0)), (1, .int p1), (2, .int p2)] := hl
  unfold fX6_loan at h
  refine lv_aload_n hx hb dX6_loan_0 rfl (lv_at hl 0 rfl) ?_
  refine lv_iconst (v := 0) hx hb dX6_loan_1 rfl ?_
  refine bw_put S hK hI 0 6 (ws' := (bw_mW cy a z rows asd sm buf bm 0 od om ow ca bo la pl to rd hh)) tyX6 tyX6_ok nmX6 rfl rfl (by decide) i_X6 f_X6_28 rfl rfl rfl rfl (Nat.le_of_ble_eq_true rfl) rfl dX6_loan_2 (fun H locs hI => ?_)
  refine lv_iload_n hx hb dX6_loan_5 rfl (lv_at hl 1 rfl) ?_
  refine lv_iconst (v := 0) hx hb dX6_loan_6 rfl ?_
  refine lv_aload_n hx hb dX6_loan_7 rfl (lv_at hl 0 rfl) ?_
  refine bw_get S hK hI 0 0 rfl rfl (by decide) i_X6 f_X6_7 rfl dX6_loan_8 ?_
  refine lv_iconst (v := 1) hx hb dX6_loan_11 rfl ?_
  obtain ⟨v12, hv, h⟩ := bw_b1_e h
  refine bw_iald hx hb hK hI 1 hv rfl dX6_loan_12 ?_
  refine lv_iconst (v := 1) hx hb dX6_loan_13 rfl ?_
  refine lv_isub hx hb dX6_loan_14 ?_
  obtain ⟨r15, hc, h⟩ := bw_b1_e h
  refine bw_callP S hK hZ hI (mX6_in l G cy g p1 0 (v12 - 1) r15 hc) Y_X6_in V_X6_in l_X6_35 ⟨(Nat.le_of_ble_eq_true rfl), (Nat.le_of_ble_eq_true rfl)⟩ (rest := []) (st1 := [.int r15]) rfl hl.1 rfl rfl (Nat.le_of_ble_eq_true rfl) dX6_loan_15 ⟨Nat.le_refl _, Nat.le_refl _⟩ (fun H locs hI => ?_)
  refine lv_if_ne (tgt := 27) hx hb dX6_loan_18 (by decide) (fun c_18 => ?_) (fun c_18 => ?_)
  · rw [if_neg c_18] at h
    refine lv_iload_n hx hb dX6_loan_27 rfl (lv_at hl 2 rfl) ?_
    refine lv_iconst (v := 0) hx hb dX6_loan_28 rfl ?_
    refine lv_iconst (v := 2) hx hb dX6_loan_29 rfl ?_
    obtain ⟨r30, hc, h⟩ := bw_b1_e h
    refine bw_callP S hK hZ hI (mX6_in l G cy g p2 0 2 r30 hc) Y_X6_in V_X6_in l_X6_35 ⟨(Nat.le_of_ble_eq_true rfl), (Nat.le_of_ble_eq_true rfl)⟩ (rest := []) (st1 := [.int r30]) rfl hl.1 rfl rfl (Nat.le_of_ble_eq_true rfl) dX6_loan_30 ⟨Nat.le_refl _, Nat.le_refl _⟩ (fun H locs hI => ?_)
    refine lv_if_eq (tgt := 50) hx hb dX6_loan_33 (by decide) (fun c_33 => ?_) (fun c_33 => ?_)
    · rw [if_pos c_33] at h
      refine lv_aload_n hx hb dX6_loan_50 rfl (lv_at hl 0 rfl) ?_
      refine lv_iconst (v := 2) hx hb dX6_loan_51 rfl ?_
      obtain ⟨r52, th_52, hc, h⟩ := bw_b2_e h
      refine bw_callV S hK hZ hI (mX6_fails l G cy g a z rows asd sm buf bm 0 od om ow ca bo la pl to rd hh 2 r52 th_52 hc) Y_X6_fails V_X6_fails l_X6_114 ⟨(Nat.le_of_ble_eq_true rfl), (Nat.le_of_ble_eq_true rfl)⟩ (q0 := 0) rfl rfl rfl (ws' := (bw_mW cy a z rows asd sm buf bm th_52 od om ow ca bo la pl to rd hh)) (bw_pS _) (bw_pS' _) rfl rfl hl.1 (rest := []) (st1 := [.int r52]) rfl rfl (Nat.le_of_ble_eq_true rfl) dX6_loan_52 ⟨Nat.le_refl _, Nat.le_refl _⟩ (fun H locs hI => ?_)
      subst hQ
      exact bw_iret (rr := (r, th')) S hr hlocks h (fun q : Int32 => (bw_mW cy a z rows asd sm buf bm q od om ow ca bo la pl to rd hh)) hI rfl dX6_loan_55
    rw [if_neg c_33] at h
    refine lv_aload_n hx hb dX6_loan_36 rfl (lv_at hl 0 rfl) ?_
    refine bw_get S hK hI 0 0 rfl rfl (by decide) i_X6 f_X6_7 rfl dX6_loan_37 ?_
    refine lv_iload_n hx hb dX6_loan_40 rfl (lv_at hl 1 rfl) ?_
    obtain ⟨r41, hc, h⟩ := bw_b1_e h
    refine bw_callP S hK hZ hI (mX6_loanAt l G cy g p1 r41 hc) Y_X6_loanAt V_X6_loanAt l_X6_50 ⟨(Nat.le_of_ble_eq_true rfl), (Nat.le_of_ble_eq_true rfl)⟩ (rest := [.ref (a 1)]) (st1 := [.int r41, .ref (a 1)]) rfl hl.1 rfl rfl (Nat.le_of_ble_eq_true rfl) dX6_loan_41 ⟨Nat.le_refl _, Nat.le_refl _⟩ (fun H locs hI => ?_)
    refine lv_iload_n hx hb dX6_loan_44 rfl (lv_at hl 2 rfl) ?_
    refine lv_iadd hx hb dX6_loan_45 ?_
    obtain ⟨v46, hv, h⟩ := bw_b1_e h
    refine bw_iald hx hb hK hI 1 hv rfl dX6_loan_46 ?_
    refine lv_goto (tgt := 55) hx hb dX6_loan_47 (by decide) ?_
    subst hQ
    exact bw_iret (rr := (r, th')) S hr hlocks h (fun q : Int32 => (bw_mW cy a z rows asd sm buf bm q od om ow ca bo la pl to rd hh)) hI rfl dX6_loan_55
  rw [if_pos c_18] at h
  refine lv_aload_n hx hb dX6_loan_21 rfl (lv_at hl 0 rfl) ?_
  refine lv_iconst (v := 1) hx hb dX6_loan_22 rfl ?_
  obtain ⟨r23, th_23, hc, h⟩ := bw_b2_e h
  refine bw_callV S hK hZ hI (mX6_fails l G cy g a z rows asd sm buf bm 0 od om ow ca bo la pl to rd hh 1 r23 th_23 hc) Y_X6_fails V_X6_fails l_X6_114 ⟨(Nat.le_of_ble_eq_true rfl), (Nat.le_of_ble_eq_true rfl)⟩ (q0 := 0) rfl rfl rfl (ws' := (bw_mW cy a z rows asd sm buf bm th_23 od om ow ca bo la pl to rd hh)) (bw_pS _) (bw_pS' _) rfl rfl hl.1 (rest := []) (st1 := [.int r23]) rfl rfl (Nat.le_of_ble_eq_true rfl) dX6_loan_23 ⟨Nat.le_refl _, Nat.le_refl _⟩ (fun H locs hI => ?_)
  subst hQ
  exact bw_iret (rr := (r, th')) S hr hlocks h (fun q : Int32 => (bw_mW cy a z rows asd sm buf bm q od om ow ca bo la pl to rd hh)) hI rfl dX6_loan_26
set_option maxHeartbeats 4000000 in
set_option maxRecDepth 100000 in
theorem mX6_owed (l : Launch) (G : va_G) (cy : Nat → ClassId) (g : Nat) (a : Nat → Nat) (z : bw_A1) (rows : bw_A1) (asd : bw_A1) (sm : Int32) (buf : bw_A1) (bm : Int32) (th : Int32) (od : bw_A1) (om : Int32) (ow : Int32) (ca : Int32) (bo : Int32) (la : Int32) (pl : Int32) (to : Int32) (rd : bw_A1) (hh : Int64) (p1 : Int32) (p2 : Int32) (r : Int32) (th' : Int32) (h : fX6_owed z th p1 p2 = some (r, th')) : bw_M l yX6_owed cX6_owed 3 (some .int) 3 66 G cy g [.ref (a 0), .int p1, .int p2] (bw_mW cy a z rows asd sm buf bm th od om ow ca bo la pl to rd hh) (some (.int r)) (bw_mW cy a z rows asd sm buf bm th' od om ow ca bo la pl to rd hh) := by
  refine bw_ofW (by decide +kernel) RX6 rfl (Nat.le_of_ble_eq_true rfl) ?_
  intro p e s m below meth c ls S hr hlocks hK hZ hI hl
  have hx := S.1
  have hb := S.2.1
  have hown := S.2.2.2.1
  have hts := S.2.2.2.2
  generalize va_A _ s.heap.size = A at hI hZ ⊢
  generalize hQ : MQ below _ _ s 0 0 A = Q
  have hl : lv_has ls 3 [(0, .ref (a 0)), (1, .int p1), (2, .int p2)] := hl
  have j30 : ∀ (th : Int32) (H : Heap) (locs : List Loc) (ls : Array Slot), jX6_owed_30 z th = some (r, th') → bw_I G A s.heap (bw_mW cy a z rows asd sm buf bm th od om ow ca bo la pl to rd hh) H locs → lv_has ls 3 [(0, .ref (a 0))] → W p l e (bw_rm 3 66) s m [.ref (a 0), .int p1, .int p2].toArray below meth c H locs 0 0 Q (F0 m 30 ls []) := by
    intro th H locs ls h hI hl
    unfold jX6_owed_30 at h
    refine lv_aload_n hx hb dX6_owed_30 rfl (lv_at hl 0 rfl) ?_
    refine lv_iconst (v := 1) hx hb dX6_owed_31 rfl ?_
    obtain ⟨r32, th_32, hc, h⟩ := bw_b2_e h
    refine bw_callV S hK hZ hI (mX6_fails l G cy g a z rows asd sm buf bm th od om ow ca bo la pl to rd hh 1 r32 th_32 hc) Y_X6_fails V_X6_fails l_X6_114 ⟨(Nat.le_of_ble_eq_true rfl), (Nat.le_of_ble_eq_true rfl)⟩ (q0 := 0) rfl rfl rfl (ws' := (bw_mW cy a z rows asd sm buf bm th_32 od om ow ca bo la pl to rd hh)) (bw_pS _) (bw_pS' _) rfl rfl hl.1 (rest := []) (st1 := [.int r32]) rfl rfl (Nat.le_of_ble_eq_true rfl) dX6_owed_32 ⟨Nat.le_refl _, Nat.le_refl _⟩ (fun H locs hI => ?_)
    subst hQ
    exact bw_iret (rr := (r, th')) S hr hlocks h (fun q : Int32 => (bw_mW cy a z rows asd sm buf bm q od om ow ca bo la pl to rd hh)) hI rfl dX6_owed_35
  unfold fX6_owed at h
  refine lv_aload_n hx hb dX6_owed_0 rfl (lv_at hl 0 rfl) ?_
  refine lv_iconst (v := 0) hx hb dX6_owed_1 rfl ?_
  refine bw_put S hK hI 0 6 (ws' := (bw_mW cy a z rows asd sm buf bm 0 od om ow ca bo la pl to rd hh)) tyX6 tyX6_ok nmX6 rfl rfl (by decide) i_X6 f_X6_28 rfl rfl rfl rfl (Nat.le_of_ble_eq_true rfl) rfl dX6_owed_2 (fun H locs hI => ?_)
  refine lv_aload_n hx hb dX6_owed_5 rfl (lv_at hl 0 rfl) ?_
  refine lv_iload_n hx hb dX6_owed_6 rfl (lv_at hl 1 rfl) ?_
  obtain ⟨r7, hc, h⟩ := bw_b1_e h
  refine bw_callV S hK hZ hI (mX6_isProject l G cy g a z rows asd sm buf bm 0 od om ow ca bo la pl to rd hh p1 r7 hc) Y_X6_isProject V_X6_isProject l_X6_123 ⟨(Nat.le_of_ble_eq_true rfl), (Nat.le_of_ble_eq_true rfl)⟩ (q0 := 0) rfl rfl rfl (ws' := (bw_mW cy a z rows asd sm buf bm 0 od om ow ca bo la pl to rd hh)) (bw_pS _) (bw_pS' _) rfl rfl hl.1 (rest := []) (st1 := [.int r7]) rfl rfl (Nat.le_of_ble_eq_true rfl) dX6_owed_7 ⟨Nat.le_refl _, Nat.le_refl _⟩ (fun H locs hI => ?_)
  refine lv_if_eq (tgt := 30) hx hb dX6_owed_10 (by decide) (fun c_10 => ?_) (fun c_10 => ?_)
  · rw [if_pos c_10] at h
    exact j30 0 _ _ _ h hI (lv_sub hl [0] rfl)
  rw [if_neg c_10] at h
  refine lv_aload_n hx hb dX6_owed_13 rfl (lv_at hl 0 rfl) ?_
  refine lv_iload_n hx hb dX6_owed_14 rfl (lv_at hl 2 rfl) ?_
  obtain ⟨r15, hc, h⟩ := bw_b1_e h
  refine bw_callV S hK hZ hI (mX6_isProject l G cy g a z rows asd sm buf bm 0 od om ow ca bo la pl to rd hh p2 r15 hc) Y_X6_isProject V_X6_isProject l_X6_123 ⟨(Nat.le_of_ble_eq_true rfl), (Nat.le_of_ble_eq_true rfl)⟩ (q0 := 0) rfl rfl rfl (ws' := (bw_mW cy a z rows asd sm buf bm 0 od om ow ca bo la pl to rd hh)) (bw_pS _) (bw_pS' _) rfl rfl hl.1 (rest := []) (st1 := [.int r15]) rfl rfl (Nat.le_of_ble_eq_true rfl) dX6_owed_15 ⟨Nat.le_refl _, Nat.le_refl _⟩ (fun H locs hI => ?_)
  refine lv_if_eq (tgt := 30) hx hb dX6_owed_18 (by decide) (fun c_18 => ?_) (fun c_18 => ?_)
  · rw [if_pos c_18] at h
    exact j30 0 _ _ _ h hI (lv_sub hl [0] rfl)
  rw [if_neg c_18] at h
  refine lv_aload_n hx hb dX6_owed_21 rfl (lv_at hl 0 rfl) ?_
  refine lv_iload_n hx hb dX6_owed_22 rfl (lv_at hl 1 rfl) ?_
  refine lv_iload_n hx hb dX6_owed_23 rfl (lv_at hl 2 rfl) ?_
  obtain ⟨r24, hc, h⟩ := bw_b1_e h
  refine bw_callV S hK hZ hI (mX6_owedOf l G cy g a z rows asd sm buf bm 0 od om ow ca bo la pl to rd hh p1 p2 r24 hc) Y_X6_owedOf V_X6_owedOf l_X6_135 ⟨(Nat.le_of_ble_eq_true rfl), (Nat.le_of_ble_eq_true rfl)⟩ (q0 := 0) rfl rfl rfl (ws' := (bw_mW cy a z rows asd sm buf bm 0 od om ow ca bo la pl to rd hh)) (bw_pS _) (bw_pS' _) rfl rfl hl.1 (rest := []) (st1 := [.int r24]) rfl rfl (Nat.le_of_ble_eq_true rfl) dX6_owed_24 ⟨Nat.le_refl _, Nat.le_refl _⟩ (fun H locs hI => ?_)
  refine lv_goto (tgt := 35) hx hb dX6_owed_27 (by decide) ?_
  subst hQ
  exact bw_iret (rr := (r, th')) S hr hlocks h (fun q : Int32 => (bw_mW cy a z rows asd sm buf bm q od om ow ca bo la pl to rd hh)) hI rfl dX6_owed_35
set_option maxHeartbeats 4000000 in
set_option maxRecDepth 100000 in
theorem mX6_lenderOf (l : Launch) (G : va_G) (cy : Nat → ClassId) (g : Nat) (a : Nat → Nat) (z : bw_A1) (rows : bw_A1) (asd : bw_A1) (sm : Int32) (buf : bw_A1) (bm : Int32) (th : Int32) (od : bw_A1) (om : Int32) (ow : Int32) (ca : Int32) (bo : Int32) (la : Int32) (pl : Int32) (to : Int32) (rd : bw_A1) (hh : Int64) (p1 : Int32) (p2 : Int32) (r : Int32) (od' : bw_A1) (om' : Int32) (h : fX6_lenderOf z od om p1 p2 = some (r, od', om')) : bw_M l yX6_lenderOf cX6_lenderOf 3 (some .int) 5 111 G cy g [.ref (a 0), .int p1, .int p2] (bw_mW cy a z rows asd sm buf bm th od om ow ca bo la pl to rd hh) (some (.int r)) (bw_mW cy a z rows asd sm buf bm th od' om' ow ca bo la pl to rd hh) := by
  refine bw_ofW (by decide +kernel) RX6 rfl (Nat.le_of_ble_eq_true rfl) ?_
  intro p e s m below meth c ls S hr hlocks hK hZ hI hl
  have hx := S.1
  have hb := S.2.1
  have hown := S.2.2.2.1
  have hts := S.2.2.2.2
  generalize va_A _ s.heap.size = A at hI hZ ⊢
  generalize hQ : MQ below _ _ s 0 0 A = Q
  have hl : lv_has ls 3 [(0, .ref (a 0)), (1, .int p1), (2, .int p2)] := hl
  unfold fX6_lenderOf at h
  refine lv_aload_n hx hb dX6_lenderOf_0 rfl (lv_at hl 0 rfl) ?_
  refine lv_iload_n hx hb dX6_lenderOf_1 rfl (lv_at hl 1 rfl) ?_
  obtain ⟨od_2, om_2, hc, h⟩ := bw_b2_e h
  refine bw_callV S hK hZ hI (mX6_layOrder l G cy g a z rows asd sm buf bm th od om ow ca bo la pl to rd hh p1 od_2 om_2 hc) Y_X6_layOrder V_X6_layOrder l_X6_83 ⟨(Nat.le_of_ble_eq_true rfl), (Nat.le_of_ble_eq_true rfl)⟩ (q0 := 0) rfl rfl rfl (ws' := (bw_mW cy a z rows asd sm buf bm th od_2 om_2 ow ca bo la pl to rd hh)) (bw_pS _) (bw_pS' _) rfl rfl hl.1 (rest := []) (st1 := []) rfl rfl (Nat.le_of_ble_eq_true rfl) dX6_lenderOf_2 ⟨Nat.le_refl _, Nat.le_refl _⟩ (fun H locs hI => ?_)
  refine lv_iload_n hx hb dX6_lenderOf_5 rfl (lv_at hl 2 rfl) ?_
  refine lv_aload_n hx hb dX6_lenderOf_6 rfl (lv_at hl 0 rfl) ?_
  refine bw_get S hK hI 0 8 rfl rfl (by decide) i_X6 f_X6_74 rfl dX6_lenderOf_7 ?_
  refine lv_icmp_ge (tgt := 22) hx hb dX6_lenderOf_10 (by decide) (fun c_10 => ?_) (fun c_10 => ?_)
  · rw [if_pos c_10] at h
    refine lv_iconst (v := (-1)) hx hb dX6_lenderOf_22 rfl ?_
    subst hQ
    exact bw_iret (rr := (r, od', om')) S hr hlocks h (fun q : (bw_A1 × Int32) => (bw_mW cy a z rows asd sm buf bm th q.1 q.2 ow ca bo la pl to rd hh)) hI rfl dX6_lenderOf_23
  rw [if_neg c_10] at h
  refine lv_aload_n hx hb dX6_lenderOf_13 rfl (lv_at hl 0 rfl) ?_
  refine bw_get S hK hI 0 7 rfl rfl (by decide) i_X6 f_X6_22 rfl dX6_lenderOf_14 ?_
  refine lv_iload_n hx hb dX6_lenderOf_17 rfl (lv_at hl 2 rfl) ?_
  obtain ⟨v18, hv, h⟩ := bw_b1_e h
  refine bw_iald hx hb hK hI 5 hv rfl dX6_lenderOf_18 ?_
  refine lv_goto (tgt := 23) hx hb dX6_lenderOf_19 (by decide) ?_
  subst hQ
  exact bw_iret (rr := (r, od', om')) S hr hlocks h (fun q : (bw_A1 × Int32) => (bw_mW cy a z rows asd sm buf bm th q.1 q.2 ow ca bo la pl to rd hh)) hI rfl dX6_lenderOf_23
set_option maxHeartbeats 4000000 in
set_option maxRecDepth 100000 in
theorem mX6_lender (l : Launch) (G : va_G) (cy : Nat → ClassId) (g : Nat) (a : Nat → Nat) (z : bw_A1) (rows : bw_A1) (asd : bw_A1) (sm : Int32) (buf : bw_A1) (bm : Int32) (th : Int32) (od : bw_A1) (om : Int32) (ow : Int32) (ca : Int32) (bo : Int32) (la : Int32) (pl : Int32) (to : Int32) (rd : bw_A1) (hh : Int64) (p1 : Int32) (p2 : Int32) (r : Int32) (th' : Int32) (od' : bw_A1) (om' : Int32) (h : fX6_lender z th od om p1 p2 = some (r, th', od', om')) : bw_M l yX6_lender cX6_lender 3 (some .int) 6 133 G cy g [.ref (a 0), .int p1, .int p2] (bw_mW cy a z rows asd sm buf bm th od om ow ca bo la pl to rd hh) (some (.int r)) (bw_mW cy a z rows asd sm buf bm th' od' om' ow ca bo la pl to rd hh) := by
  refine bw_ofW (by decide +kernel) RX6 rfl (Nat.le_of_ble_eq_true rfl) ?_
  intro p e s m below meth c ls S hr hlocks hK hZ hI hl
  have hx := S.1
  have hb := S.2.1
  have hown := S.2.2.2.1
  have hts := S.2.2.2.2
  generalize va_A _ s.heap.size = A at hI hZ ⊢
  generalize hQ : MQ below _ _ s 0 0 A = Q
  have hl : lv_has ls 3 [(0, .ref (a 0)), (1, .int p1), (2, .int p2)] := hl
  unfold fX6_lender at h
  refine lv_aload_n hx hb dX6_lender_0 rfl (lv_at hl 0 rfl) ?_
  refine lv_iconst (v := 0) hx hb dX6_lender_1 rfl ?_
  refine bw_put S hK hI 0 6 (ws' := (bw_mW cy a z rows asd sm buf bm 0 od om ow ca bo la pl to rd hh)) tyX6 tyX6_ok nmX6 rfl rfl (by decide) i_X6 f_X6_28 rfl rfl rfl rfl (Nat.le_of_ble_eq_true rfl) rfl dX6_lender_2 (fun H locs hI => ?_)
  refine lv_aload_n hx hb dX6_lender_5 rfl (lv_at hl 0 rfl) ?_
  refine lv_iload_n hx hb dX6_lender_6 rfl (lv_at hl 1 rfl) ?_
  obtain ⟨r7, hc, h⟩ := bw_b1_e h
  refine bw_callV S hK hZ hI (mX6_isProject l G cy g a z rows asd sm buf bm 0 od om ow ca bo la pl to rd hh p1 r7 hc) Y_X6_isProject V_X6_isProject l_X6_123 ⟨(Nat.le_of_ble_eq_true rfl), (Nat.le_of_ble_eq_true rfl)⟩ (q0 := 0) rfl rfl rfl (ws' := (bw_mW cy a z rows asd sm buf bm 0 od om ow ca bo la pl to rd hh)) (bw_pS _) (bw_pS' _) rfl rfl hl.1 (rest := []) (st1 := [.int r7]) rfl rfl (Nat.le_of_ble_eq_true rfl) dX6_lender_7 ⟨Nat.le_refl _, Nat.le_refl _⟩ (fun H locs hI => ?_)
  refine lv_if_ne (tgt := 19) hx hb dX6_lender_10 (by decide) (fun c_10 => ?_) (fun c_10 => ?_)
  · rw [if_neg c_10] at h
    refine lv_iload_n hx hb dX6_lender_19 rfl (lv_at hl 2 rfl) ?_
    refine lv_iconst (v := 0) hx hb dX6_lender_20 rfl ?_
    refine lv_iconst (v := 4) hx hb dX6_lender_21 rfl ?_
    obtain ⟨r22, hc, h⟩ := bw_b1_e h
    refine bw_callP S hK hZ hI (mX6_in l G cy g p2 0 4 r22 hc) Y_X6_in V_X6_in l_X6_35 ⟨(Nat.le_of_ble_eq_true rfl), (Nat.le_of_ble_eq_true rfl)⟩ (rest := []) (st1 := [.int r22]) rfl hl.1 rfl rfl (Nat.le_of_ble_eq_true rfl) dX6_lender_22 ⟨Nat.le_refl _, Nat.le_refl _⟩ (fun H locs hI => ?_)
    refine lv_if_eq (tgt := 37) hx hb dX6_lender_25 (by decide) (fun c_25 => ?_) (fun c_25 => ?_)
    · rw [if_pos c_25] at h
      refine lv_aload_n hx hb dX6_lender_37 rfl (lv_at hl 0 rfl) ?_
      refine lv_iconst (v := 2) hx hb dX6_lender_38 rfl ?_
      obtain ⟨r39, th_39, hc, h⟩ := bw_b2_e h
      refine bw_callV S hK hZ hI (mX6_fails l G cy g a z rows asd sm buf bm 0 od om ow ca bo la pl to rd hh 2 r39 th_39 hc) Y_X6_fails V_X6_fails l_X6_114 ⟨(Nat.le_of_ble_eq_true rfl), (Nat.le_of_ble_eq_true rfl)⟩ (q0 := 0) rfl rfl rfl (ws' := (bw_mW cy a z rows asd sm buf bm th_39 od om ow ca bo la pl to rd hh)) (bw_pS _) (bw_pS' _) rfl rfl hl.1 (rest := []) (st1 := [.int r39]) rfl rfl (Nat.le_of_ble_eq_true rfl) dX6_lender_39 ⟨Nat.le_refl _, Nat.le_refl _⟩ (fun H locs hI => ?_)
      subst hQ
      exact bw_iret (rr := (r, th', od', om')) S hr hlocks h (fun q : (Int32 × bw_A1 × Int32) => (bw_mW cy a z rows asd sm buf bm q.1 q.2.1 q.2.2 ow ca bo la pl to rd hh)) hI rfl dX6_lender_42
    rw [if_neg c_25] at h
    refine lv_aload_n hx hb dX6_lender_28 rfl (lv_at hl 0 rfl) ?_
    refine lv_iload_n hx hb dX6_lender_29 rfl (lv_at hl 1 rfl) ?_
    refine lv_iload_n hx hb dX6_lender_30 rfl (lv_at hl 2 rfl) ?_
    obtain ⟨r31, od_31, om_31, hc, h⟩ := bw_b3_e h
    refine bw_callV S hK hZ hI (mX6_lenderOf l G cy g a z rows asd sm buf bm 0 od om ow ca bo la pl to rd hh p1 p2 r31 od_31 om_31 hc) Y_X6_lenderOf V_X6_lenderOf l_X6_186 ⟨(Nat.le_of_ble_eq_true rfl), (Nat.le_of_ble_eq_true rfl)⟩ (q0 := 0) rfl rfl rfl (ws' := (bw_mW cy a z rows asd sm buf bm 0 od_31 om_31 ow ca bo la pl to rd hh)) (bw_pS _) (bw_pS' _) rfl rfl hl.1 (rest := []) (st1 := [.int r31]) rfl rfl (Nat.le_of_ble_eq_true rfl) dX6_lender_31 ⟨Nat.le_refl _, Nat.le_refl _⟩ (fun H locs hI => ?_)
    refine lv_goto (tgt := 42) hx hb dX6_lender_34 (by decide) ?_
    subst hQ
    exact bw_iret (rr := (r, th', od', om')) S hr hlocks h (fun q : (Int32 × bw_A1 × Int32) => (bw_mW cy a z rows asd sm buf bm q.1 q.2.1 q.2.2 ow ca bo la pl to rd hh)) hI rfl dX6_lender_42
  rw [if_pos c_10] at h
  refine lv_aload_n hx hb dX6_lender_13 rfl (lv_at hl 0 rfl) ?_
  refine lv_iconst (v := 1) hx hb dX6_lender_14 rfl ?_
  obtain ⟨r15, th_15, hc, h⟩ := bw_b2_e h
  refine bw_callV S hK hZ hI (mX6_fails l G cy g a z rows asd sm buf bm 0 od om ow ca bo la pl to rd hh 1 r15 th_15 hc) Y_X6_fails V_X6_fails l_X6_114 ⟨(Nat.le_of_ble_eq_true rfl), (Nat.le_of_ble_eq_true rfl)⟩ (q0 := 0) rfl rfl rfl (ws' := (bw_mW cy a z rows asd sm buf bm th_15 od om ow ca bo la pl to rd hh)) (bw_pS _) (bw_pS' _) rfl rfl hl.1 (rest := []) (st1 := [.int r15]) rfl rfl (Nat.le_of_ble_eq_true rfl) dX6_lender_15 ⟨Nat.le_refl _, Nat.le_refl _⟩ (fun H locs hI => ?_)
  subst hQ
  exact bw_iret (rr := (r, th', od', om')) S hr hlocks h (fun q : (Int32 × bw_A1 × Int32) => (bw_mW cy a z rows asd sm buf bm q.1 q.2.1 q.2.2 ow ca bo la pl to rd hh)) hI rfl dX6_lender_18
set_option maxHeartbeats 4000000 in
set_option maxRecDepth 100000 in
theorem mX6_ofProjects (l : Launch) (G : va_G) (cy : Nat → ClassId) (g : Nat) (a : Nat → Nat) (z : bw_A1) (rows : bw_A1) (asd : bw_A1) (sm : Int32) (buf : bw_A1) (bm : Int32) (th : Int32) (od : bw_A1) (om : Int32) (ow : Int32) (ca : Int32) (bo : Int32) (la : Int32) (pl : Int32) (to : Int32) (rd : bw_A1) (hh : Int64) (p1 : Int32) (r : Int32) (h : fX6_ofProjects z p1 = some r) : bw_M l yX6_ofProjects cX6_ofProjects 4 (some .int) 4 87 G cy g [.ref (a 0), .int p1] (bw_mW cy a z rows asd sm buf bm th od om ow ca bo la pl to rd hh) (some (.int r)) (bw_mW cy a z rows asd sm buf bm th od om ow ca bo la pl to rd hh) := by
  refine bw_ofW (by decide +kernel) RX6 rfl (Nat.le_of_ble_eq_true rfl) ?_
  intro p e s m below meth c ls S hr hlocks hK hZ hI hl
  have hx := S.1
  have hb := S.2.1
  have hown := S.2.2.2.1
  have hts := S.2.2.2.2
  generalize va_A _ s.heap.size = A at hI hZ ⊢
  generalize hQ : MQ below _ _ s 0 0 A = Q
  have hl : lv_has ls 4 [(0, .ref (a 0)), (1, .int p1)] := hl
  have l4 : ∀ (x1 : Int32) (n : Nat) (H : Heap) (locs : List Loc) (ls : Array Slot) (x2 : Int32) (x3 : Int32), lX6_ofProjects_4 z x1 n x2 x3 = some r → bw_I G A s.heap (bw_mW cy a z rows asd sm buf bm th od om ow ca bo la pl to rd hh) H locs → lv_has ls 4 [(0, .ref (a 0)), (1, .int x1), (2, .int x2), (3, .int x3)] → W p l e (bw_rm 4 87) s m [.ref (a 0), .int p1].toArray below meth c H locs 0 0 Q (F0 m 4 ls []) := by
    intro x1 n
    induction n with
    | zero => intro H locs ls x2 x3 h; exact bw_none h
    | succ n ih =>
      intro H locs ls x2 x3 h hI hl
      have h : bX6_ofProjects_4  (lX6_ofProjects_4 z x1 n) z x1 x2 x3 = some r := h
      unfold bX6_ofProjects_4 at h
      refine lv_iload_n hx hb dX6_ofProjects_4 rfl (lv_at hl 3 rfl) ?_
      refine lv_aload_n hx hb dX6_ofProjects_5 rfl (lv_at hl 0 rfl) ?_
      refine bw_get S hK hI 0 0 rfl rfl (by decide) i_X6 f_X6_7 rfl dX6_ofProjects_6 ?_
      refine lv_iconst (v := 0) hx hb dX6_ofProjects_9 rfl ?_
      obtain ⟨v10, hv, h⟩ := bw_b1_e h
      refine bw_iald hx hb hK hI 1 hv rfl dX6_ofProjects_10 ?_
      refine lv_icmp_ge (tgt := 29) hx hb dX6_ofProjects_11 (by decide) (fun c_11 => ?_) (fun c_11 => ?_)
      · rw [if_pos c_11] at h
        refine lv_iload_n hx hb dX6_ofProjects_29 rfl (lv_at hl 2 rfl) ?_
        subst hQ
        exact bw_iretP S hr hlocks h hI rfl dX6_ofProjects_30
      rw [if_neg c_11] at h
      refine lv_iload_n hx hb dX6_ofProjects_14 rfl (lv_at hl 2 rfl) ?_
      refine lv_aload_n hx hb dX6_ofProjects_15 rfl (lv_at hl 0 rfl) ?_
      refine lv_iload_n hx hb dX6_ofProjects_16 rfl (lv_at hl 3 rfl) ?_
      refine lv_iload_n hx hb dX6_ofProjects_17 rfl (lv_at hl 1 rfl) ?_
      obtain ⟨r18, hc, h⟩ := bw_b1_e h
      refine bw_callV S hK hZ hI (mX6_projectOf l G cy g a z rows asd sm buf bm th od om ow ca bo la pl to rd hh x3 x1 r18 hc) Y_X6_projectOf V_X6_projectOf l_X6_179 ⟨(Nat.le_of_ble_eq_true rfl), (Nat.le_of_ble_eq_true rfl)⟩ (q0 := 0) rfl rfl rfl (ws' := (bw_mW cy a z rows asd sm buf bm th od om ow ca bo la pl to rd hh)) (bw_pS _) (bw_pS' _) rfl rfl hl.1 (rest := [.int x2]) (st1 := [.int r18, .int x2]) rfl rfl (Nat.le_of_ble_eq_true rfl) dX6_ofProjects_18 ⟨Nat.le_refl _, Nat.le_refl _⟩ (fun H locs hI => ?_)
      refine lv_iadd hx hb dX6_ofProjects_21 ?_
      refine lv_topi (fun x2_22 e_22 => ?_)
      have h := bw_let_e h e_22
      clear e_22
      refine lv_istore_n (lv' := [(2, .int x2_22), (0, .ref (a 0)), (1, .int x1), (3, .int x3)]) hx hb dX6_ofProjects_22 rfl hl (by decide) rfl (fun ls hl => ?_)
      obtain ⟨x3_23, e_23⟩ : ∃ y : Int32, y = x3 + 1 := ⟨_, rfl⟩
      have h := bw_let_e h e_23
      refine lv_iinc (v := x3_23) (lv' := [(3, .int x3_23), (2, .int x2_22), (0, .ref (a 0)), (1, .int x1)]) hx hb dX6_ofProjects_23 hl (k := 3) rfl (by rw [e_23]; rfl) (by decide) rfl (fun ls hl => ?_)
      clear e_23
      refine lv_goto (tgt := 4) hx hb dX6_ofProjects_26 (by decide) ?_
      exact ih _ _ _ x2_22 x3_23 h hI (lv_sub hl [2,3,1,0] rfl)
  unfold fX6_ofProjects at h
  refine lv_iconst (v := 0) hx hb dX6_ofProjects_0 rfl ?_
  refine lv_istore_n (lv' := [(2, .int 0), (0, .ref (a 0)), (1, .int p1)]) hx hb dX6_ofProjects_1 rfl hl (by decide) rfl (fun ls hl => ?_)
  refine lv_iconst (v := 0) hx hb dX6_ofProjects_2 rfl ?_
  refine lv_istore_n (lv' := [(3, .int 0), (2, .int 0), (0, .ref (a 0)), (1, .int p1)]) hx hb dX6_ofProjects_3 rfl hl (by decide) rfl (fun ls hl => ?_)
  exact l4 p1 bw_fu _ _ _ 0 0 h hI (lv_sub hl [2,3,1,0] rfl)
set_option maxHeartbeats 4000000 in
set_option maxRecDepth 100000 in
theorem mX6_delays (l : Launch) (G : va_G) (cy : Nat → ClassId) (g : Nat) (a : Nat → Nat) (z : bw_A1) (rows : bw_A1) (asd : bw_A1) (sm : Int32) (buf : bw_A1) (bm : Int32) (th : Int32) (od : bw_A1) (om : Int32) (ow : Int32) (ca : Int32) (bo : Int32) (la : Int32) (pl : Int32) (to : Int32) (rd : bw_A1) (hh : Int64) (r : Int32) (h : fX6_delays z = some r) : bw_M l yX6_delays cX6_delays 5 (some .int) 2 44 G cy g [.ref (a 0)] (bw_mW cy a z rows asd sm buf bm th od om ow ca bo la pl to rd hh) (some (.int r)) (bw_mW cy a z rows asd sm buf bm th od om ow ca bo la pl to rd hh) := by
  refine bw_ofW (by decide +kernel) RX6 rfl (Nat.le_of_ble_eq_true rfl) ?_
  intro p e s m below meth c ls S hr hlocks hK hZ hI hl
  have hx := S.1
  have hb := S.2.1
  have hown := S.2.2.2.1
  have hts := S.2.2.2.2
  generalize va_A _ s.heap.size = A at hI hZ ⊢
  generalize hQ : MQ below _ _ s 0 0 A = Q
  have hl : lv_has ls 5 [(0, .ref (a 0))] := hl
  have j61 : ∀ (x2 : Int32) (x3 : Int32) (s0 : Int32) (s1 : Int32) (k4 : Int32 → Int32 → Option Int32) (hk4 : ∀ (H : Heap) (locs : List Loc) (ls : Array Slot) (x1_ : Int32) (x2_ : Int32), k4 x1_ x2_ = some r → bw_I G A s.heap (bw_mW cy a z rows asd sm buf bm th od om ow ca bo la pl to rd hh) H locs → lv_has ls 5 [(0, .ref (a 0)), (1, .int x1_), (2, .int x2_)] → W p l e (bw_rm 2 44) s m [.ref (a 0)].toArray below meth c H locs 0 0 Q (F0 m 4 ls [])) (k16 : Int32 → Int32 → Option Int32) (hk16 : ∀ (H : Heap) (locs : List Loc) (ls : Array Slot) (x1_ : Int32) (x3_ : Int32), k16 x1_ x3_ = some r → bw_I G A s.heap (bw_mW cy a z rows asd sm buf bm th od om ow ca bo la pl to rd hh) H locs → lv_has ls 5 [(0, .ref (a 0)), (1, .int x1_), (2, .int x2), (3, .int x3_)] → W p l e (bw_rm 2 44) s m [.ref (a 0)].toArray below meth c H locs 0 0 Q (F0 m 16 ls [])) (H : Heap) (locs : List Loc) (ls : Array Slot), jX6_delays_61 k4 k16 z x2 x3 s0 s1 = some r → bw_I G A s.heap (bw_mW cy a z rows asd sm buf bm th od om ow ca bo la pl to rd hh) H locs → lv_has ls 5 [(0, .ref (a 0)), (2, .int x2), (3, .int x3)] → W p l e (bw_rm 2 44) s m [.ref (a 0)].toArray below meth c H locs 0 0 Q (F0 m 61 ls [.int s0, .int s1]) := by
    intro x2 x3 s0 s1 k4 hk4 k16 hk16 H locs ls h hI hl
    unfold jX6_delays_61 at h
    refine lv_iadd hx hb dX6_delays_61 ?_
    refine lv_topi (fun x1_62 e_62 => ?_)
    have h := bw_let_e h e_62
    clear e_62
    refine lv_istore_n (lv' := [(1, .int x1_62), (0, .ref (a 0)), (2, .int x2), (3, .int x3)]) hx hb dX6_delays_62 rfl hl (by decide) rfl (fun ls hl => ?_)
    obtain ⟨x3_63, e_63⟩ : ∃ y : Int32, y = x3 + 1 := ⟨_, rfl⟩
    have h := bw_let_e h e_63
    refine lv_iinc (v := x3_63) (lv' := [(3, .int x3_63), (1, .int x1_62), (0, .ref (a 0)), (2, .int x2)]) hx hb dX6_delays_63 hl (k := 3) rfl (by rw [e_63]; rfl) (by decide) rfl (fun ls hl => ?_)
    clear e_63
    refine lv_goto (tgt := 16) hx hb dX6_delays_66 (by decide) ?_
    exact hk16 _ _ _ x1_62 x3_63 h hI (lv_sub hl [2,1,3,0] rfl)
  have l16 : ∀ (x2 : Int32) (k4 : Int32 → Int32 → Option Int32) (hk4 : ∀ (H : Heap) (locs : List Loc) (ls : Array Slot) (x1_ : Int32) (x2_ : Int32), k4 x1_ x2_ = some r → bw_I G A s.heap (bw_mW cy a z rows asd sm buf bm th od om ow ca bo la pl to rd hh) H locs → lv_has ls 5 [(0, .ref (a 0)), (1, .int x1_), (2, .int x2_)] → W p l e (bw_rm 2 44) s m [.ref (a 0)].toArray below meth c H locs 0 0 Q (F0 m 4 ls [])) (n : Nat) (H : Heap) (locs : List Loc) (ls : Array Slot) (x1 : Int32) (x3 : Int32), lX6_delays_16 k4 z x2 n x1 x3 = some r → bw_I G A s.heap (bw_mW cy a z rows asd sm buf bm th od om ow ca bo la pl to rd hh) H locs → lv_has ls 5 [(0, .ref (a 0)), (1, .int x1), (2, .int x2), (3, .int x3)] → W p l e (bw_rm 2 44) s m [.ref (a 0)].toArray below meth c H locs 0 0 Q (F0 m 16 ls []) := by
    intro x2 k4 hk4 n
    induction n with
    | zero => intro H locs ls x1 x3 h; exact bw_none h
    | succ n ih =>
      intro H locs ls x1 x3 h hI hl
      have h : bX6_delays_16 k4 (lX6_delays_16 k4 z x2 n) z x2 x1 x3 = some r := h
      unfold bX6_delays_16 at h
      refine lv_iload_n hx hb dX6_delays_16 rfl (lv_at hl 3 rfl) ?_
      refine lv_aload_n hx hb dX6_delays_17 rfl (lv_at hl 0 rfl) ?_
      refine bw_get S hK hI 0 0 rfl rfl (by decide) i_X6 f_X6_7 rfl dX6_delays_18 ?_
      refine lv_iload_n hx hb dX6_delays_21 rfl (lv_at hl 2 rfl) ?_
      obtain ⟨r22, hc, h⟩ := bw_b1_e h
      refine bw_callP S hK hZ hI (mX6_at l G cy g x2 r22 hc) Y_X6_at V_X6_at l_X6_39 ⟨(Nat.le_of_ble_eq_true rfl), (Nat.le_of_ble_eq_true rfl)⟩ (rest := [.ref (a 1), .int x3]) (st1 := [.int r22, .ref (a 1), .int x3]) rfl hl.1 rfl rfl (Nat.le_of_ble_eq_true rfl) dX6_delays_22 ⟨Nat.le_refl _, Nat.le_refl _⟩ (fun H locs hI => ?_)
      refine lv_bipush (v := 6) hx hb dX6_delays_25 (by decide) ?_
      refine lv_iadd hx hb dX6_delays_27 ?_
      obtain ⟨v28, hv, h⟩ := bw_b1_e h
      refine bw_iald hx hb hK hI 1 hv rfl dX6_delays_28 ?_
      refine lv_icmp_ge (tgt := 69) hx hb dX6_delays_29 (by decide) (fun c_29 => ?_) (fun c_29 => ?_)
      · rw [if_pos c_29] at h
        obtain ⟨x2_69, e_69⟩ : ∃ y : Int32, y = x2 + 1 := ⟨_, rfl⟩
        have h := bw_let_e h e_69
        refine lv_iinc (v := x2_69) (lv' := [(2, .int x2_69), (0, .ref (a 0)), (1, .int x1), (3, .int x3)]) hx hb dX6_delays_69 hl (k := 2) rfl (by rw [e_69]; rfl) (by decide) rfl (fun ls hl => ?_)
        clear e_69
        refine lv_goto (tgt := 4) hx hb dX6_delays_72 (by decide) ?_
        exact hk4 _ _ _ x1 x2_69 h hI (lv_sub hl [1,2,0] rfl)
      rw [if_neg c_29] at h
      refine lv_aload_n hx hb dX6_delays_32 rfl (lv_at hl 0 rfl) ?_
      refine lv_iload_n hx hb dX6_delays_33 rfl (lv_at hl 2 rfl) ?_
      refine lv_iload_n hx hb dX6_delays_34 rfl (lv_at hl 3 rfl) ?_
      refine lv_iconst (v := 1) hx hb dX6_delays_35 rfl ?_
      obtain ⟨r36, hc, h⟩ := bw_b1_e h
      refine bw_callV S hK hZ hI (mX6_taskOf l G cy g a z rows asd sm buf bm th od om ow ca bo la pl to rd hh x2 x3 1 r36 hc) Y_X6_taskOf V_X6_taskOf l_X6_182 ⟨(Nat.le_of_ble_eq_true rfl), (Nat.le_of_ble_eq_true rfl)⟩ (q0 := 0) rfl rfl rfl (ws' := (bw_mW cy a z rows asd sm buf bm th od om ow ca bo la pl to rd hh)) (bw_pS _) (bw_pS' _) rfl rfl hl.1 (rest := []) (st1 := [.int r36]) rfl rfl (Nat.le_of_ble_eq_true rfl) dX6_delays_36 ⟨Nat.le_refl _, Nat.le_refl _⟩ (fun H locs hI => ?_)
      refine lv_aload_n hx hb dX6_delays_39 rfl (lv_at hl 0 rfl) ?_
      refine lv_iload_n hx hb dX6_delays_40 rfl (lv_at hl 2 rfl) ?_
      refine lv_iload_n hx hb dX6_delays_41 rfl (lv_at hl 3 rfl) ?_
      refine lv_iconst (v := 0) hx hb dX6_delays_42 rfl ?_
      obtain ⟨r43, hc, h⟩ := bw_b1_e h
      refine bw_callV S hK hZ hI (mX6_taskOf l G cy g a z rows asd sm buf bm th od om ow ca bo la pl to rd hh x2 x3 0 r43 hc) Y_X6_taskOf V_X6_taskOf l_X6_182 ⟨(Nat.le_of_ble_eq_true rfl), (Nat.le_of_ble_eq_true rfl)⟩ (q0 := 0) rfl rfl rfl (ws' := (bw_mW cy a z rows asd sm buf bm th od om ow ca bo la pl to rd hh)) (bw_pS _) (bw_pS' _) rfl rfl hl.1 (rest := [.int r36]) (st1 := [.int r43, .int r36]) rfl rfl (Nat.le_of_ble_eq_true rfl) dX6_delays_43 ⟨Nat.le_refl _, Nat.le_refl _⟩ (fun H locs hI => ?_)
      refine lv_isub hx hb dX6_delays_46 ?_
      refine lv_topi (fun x4_47 e_47 => ?_)
      have h := bw_let_e h e_47
      clear e_47
      refine lv_istore (lv' := [(4, .int x4_47), (0, .ref (a 0)), (1, .int x1), (2, .int x2), (3, .int x3)]) hx hb dX6_delays_47 hl (by decide) rfl (fun ls hl => ?_)
      refine lv_iload_n hx hb dX6_delays_49 rfl (lv_at hl 2 rfl) ?_
      refine lv_iload hx hb dX6_delays_50 (lv_at hl 0 rfl) ?_
      refine lv_if_le (tgt := 60) hx hb dX6_delays_52 (by decide) (fun c_52 => ?_) (fun c_52 => ?_)
      · rw [if_pos c_52] at h
        refine lv_iconst (v := 0) hx hb dX6_delays_60 rfl ?_
        exact j61 x2 x3 0 x1 k4 hk4 (lX6_delays_16 k4 z x2 n) ih _ _ _ h hI (lv_sub hl [1,3,4] rfl)
      rw [if_neg c_52] at h
      refine lv_iload hx hb dX6_delays_55 (lv_at hl 0 rfl) ?_
      refine lv_goto (tgt := 61) hx hb dX6_delays_57 (by decide) ?_
      exact j61 x2 x3 x4_47 x1 k4 hk4 (lX6_delays_16 k4 z x2 n) ih _ _ _ h hI (lv_sub hl [1,3,4] rfl)
  have l4 : ∀  (n : Nat) (H : Heap) (locs : List Loc) (ls : Array Slot) (x1 : Int32) (x2 : Int32), lX6_delays_4 z n x1 x2 = some r → bw_I G A s.heap (bw_mW cy a z rows asd sm buf bm th od om ow ca bo la pl to rd hh) H locs → lv_has ls 5 [(0, .ref (a 0)), (1, .int x1), (2, .int x2)] → W p l e (bw_rm 2 44) s m [.ref (a 0)].toArray below meth c H locs 0 0 Q (F0 m 4 ls []) := by
    intro  n
    induction n with
    | zero => intro H locs ls x1 x2 h; exact bw_none h
    | succ n ih =>
      intro H locs ls x1 x2 h hI hl
      have h : bX6_delays_4  (lX6_delays_4 z n) z x1 x2 = some r := h
      unfold bX6_delays_4 at h
      refine lv_iload_n hx hb dX6_delays_4 rfl (lv_at hl 2 rfl) ?_
      refine lv_aload_n hx hb dX6_delays_5 rfl (lv_at hl 0 rfl) ?_
      refine bw_get S hK hI 0 0 rfl rfl (by decide) i_X6 f_X6_7 rfl dX6_delays_6 ?_
      refine lv_iconst (v := 0) hx hb dX6_delays_9 rfl ?_
      obtain ⟨v10, hv, h⟩ := bw_b1_e h
      refine bw_iald hx hb hK hI 1 hv rfl dX6_delays_10 ?_
      refine lv_icmp_ge (tgt := 75) hx hb dX6_delays_11 (by decide) (fun c_11 => ?_) (fun c_11 => ?_)
      · rw [if_pos c_11] at h
        refine lv_iload_n hx hb dX6_delays_75 rfl (lv_at hl 1 rfl) ?_
        subst hQ
        exact bw_iretP S hr hlocks h hI rfl dX6_delays_76
      rw [if_neg c_11] at h
      refine lv_iconst (v := 0) hx hb dX6_delays_14 rfl ?_
      refine lv_istore_n (lv' := [(3, .int 0), (0, .ref (a 0)), (1, .int x1), (2, .int x2)]) hx hb dX6_delays_15 rfl hl (by decide) rfl (fun ls hl => ?_)
      exact l16 x2 (lX6_delays_4 z n) ih bw_fu _ _ _ x1 0 h hI (lv_sub hl [1,2,3,0] rfl)
  unfold fX6_delays at h
  refine lv_iconst (v := 0) hx hb dX6_delays_0 rfl ?_
  refine lv_istore_n (lv' := [(1, .int 0), (0, .ref (a 0))]) hx hb dX6_delays_1 rfl hl (by decide) rfl (fun ls hl => ?_)
  refine lv_iconst (v := 0) hx hb dX6_delays_2 rfl ?_
  refine lv_istore_n (lv' := [(2, .int 0), (1, .int 0), (0, .ref (a 0))]) hx hb dX6_delays_3 rfl hl (by decide) rfl (fun ls hl => ?_)
  exact l4  bw_fu _ _ _ 0 0 h hI (lv_sub hl [2,1,0] rfl)
set_option maxHeartbeats 4000000 in
set_option maxRecDepth 100000 in
theorem mX6_counted (l : Launch) (G : va_G) (cy : Nat → ClassId) (g : Nat) (a : Nat → Nat) (z : bw_A1) (rows : bw_A1) (asd : bw_A1) (sm : Int32) (buf : bw_A1) (bm : Int32) (th : Int32) (od : bw_A1) (om : Int32) (ow : Int32) (ca : Int32) (bo : Int32) (la : Int32) (pl : Int32) (to : Int32) (rd : bw_A1) (hh : Int64) (p1 : Int32) (r : Int32) (h : fX6_counted z sm p1 = some r) : bw_M l yX6_counted cX6_counted 2 (some .int) 5 110 G cy g [.ref (a 0), .int p1] (bw_mW cy a z rows asd sm buf bm th od om ow ca bo la pl to rd hh) (some (.int r)) (bw_mW cy a z rows asd sm buf bm th od om ow ca bo la pl to rd hh) := by
  refine bw_ofW (by decide +kernel) RX6 rfl (Nat.le_of_ble_eq_true rfl) ?_
  intro p e s m below meth c ls S hr hlocks hK hZ hI hl
  have hx := S.1
  have hb := S.2.1
  have hown := S.2.2.2.1
  have hts := S.2.2.2.2
  generalize va_A _ s.heap.size = A at hI hZ ⊢
  generalize hQ : MQ below _ _ s 0 0 A = Q
  have hl : lv_has ls 2 [(0, .ref (a 0)), (1, .int p1)] := hl
  unfold fX6_counted at h
  refine lv_iload_n hx hb dX6_counted_0 rfl (lv_at hl 1 rfl) ?_
  by_cases c_1_0 : p1 = 0
  · rw [if_pos c_1_0] at h
    refine lv_tableIn (tgt := 52) hx hb dX6_counted_1 (by rw [c_1_0]; decide) (by rw [c_1_0]; decide) (by rw [c_1_0]; rfl) (by decide) ?_
    refine lv_aload_n hx hb dX6_counted_52 rfl (lv_at hl 0 rfl) ?_
    refine bw_get S hK hI 0 0 rfl rfl (by decide) i_X6 f_X6_7 rfl dX6_counted_53 ?_
    refine lv_iconst (v := 0) hx hb dX6_counted_56 rfl ?_
    obtain ⟨v57, hv, h⟩ := bw_b1_e h
    refine bw_iald hx hb hK hI 1 hv rfl dX6_counted_57 ?_
    subst hQ
    exact bw_iretP S hr hlocks h hI rfl dX6_counted_58
  rw [if_neg c_1_0] at h
  by_cases c_1_1 : p1 = 1
  · rw [if_pos c_1_1] at h
    refine lv_tableIn (tgt := 59) hx hb dX6_counted_1 (by rw [c_1_1]; decide) (by rw [c_1_1]; decide) (by rw [c_1_1]; rfl) (by decide) ?_
    refine lv_aload_n hx hb dX6_counted_59 rfl (lv_at hl 0 rfl) ?_
    refine lv_bipush (v := 9) hx hb dX6_counted_60 (by decide) ?_
    obtain ⟨r62, hc, h⟩ := bw_b1_e h
    refine bw_callV S hK hZ hI (mX6_ofProjects l G cy g a z rows asd sm buf bm th od om ow ca bo la pl to rd hh 9 r62 hc) Y_X6_ofProjects V_X6_ofProjects l_X6_189 ⟨(Nat.le_of_ble_eq_true rfl), (Nat.le_of_ble_eq_true rfl)⟩ (q0 := 0) rfl rfl rfl (ws' := (bw_mW cy a z rows asd sm buf bm th od om ow ca bo la pl to rd hh)) (bw_pS _) (bw_pS' _) rfl rfl hl.1 (rest := []) (st1 := [.int r62]) rfl rfl (Nat.le_of_ble_eq_true rfl) dX6_counted_62 ⟨Nat.le_refl _, Nat.le_refl _⟩ (fun H locs hI => ?_)
    subst hQ
    exact bw_iretP S hr hlocks h hI rfl dX6_counted_65
  rw [if_neg c_1_1] at h
  by_cases c_1_2 : p1 = 2
  · rw [if_pos c_1_2] at h
    refine lv_tableIn (tgt := 66) hx hb dX6_counted_1 (by rw [c_1_2]; decide) (by rw [c_1_2]; decide) (by rw [c_1_2]; rfl) (by decide) ?_
    refine lv_aload_n hx hb dX6_counted_66 rfl (lv_at hl 0 rfl) ?_
    refine bw_get S hK hI 0 0 rfl rfl (by decide) i_X6 f_X6_7 rfl dX6_counted_67 ?_
    refine lv_iconst (v := 1) hx hb dX6_counted_70 rfl ?_
    obtain ⟨v71, hv, h⟩ := bw_b1_e h
    refine bw_iald hx hb hK hI 1 hv rfl dX6_counted_71 ?_
    subst hQ
    exact bw_iretP S hr hlocks h hI rfl dX6_counted_72
  rw [if_neg c_1_2] at h
  by_cases c_1_3 : p1 = 3
  · rw [if_pos c_1_3] at h
    refine lv_tableIn (tgt := 73) hx hb dX6_counted_1 (by rw [c_1_3]; decide) (by rw [c_1_3]; decide) (by rw [c_1_3]; rfl) (by decide) ?_
    refine lv_aload_n hx hb dX6_counted_73 rfl (lv_at hl 0 rfl) ?_
    refine lv_iconst (v := 4) hx hb dX6_counted_74 rfl ?_
    obtain ⟨r75, hc, h⟩ := bw_b1_e h
    refine bw_callV S hK hZ hI (mX6_ofProjects l G cy g a z rows asd sm buf bm th od om ow ca bo la pl to rd hh 4 r75 hc) Y_X6_ofProjects V_X6_ofProjects l_X6_189 ⟨(Nat.le_of_ble_eq_true rfl), (Nat.le_of_ble_eq_true rfl)⟩ (q0 := 0) rfl rfl rfl (ws' := (bw_mW cy a z rows asd sm buf bm th od om ow ca bo la pl to rd hh)) (bw_pS _) (bw_pS' _) rfl rfl hl.1 (rest := []) (st1 := [.int r75]) rfl rfl (Nat.le_of_ble_eq_true rfl) dX6_counted_75 ⟨Nat.le_refl _, Nat.le_refl _⟩ (fun H locs hI => ?_)
    subst hQ
    exact bw_iretP S hr hlocks h hI rfl dX6_counted_78
  rw [if_neg c_1_3] at h
  by_cases c_1_4 : p1 = 4
  · rw [if_pos c_1_4] at h
    refine lv_tableIn (tgt := 79) hx hb dX6_counted_1 (by rw [c_1_4]; decide) (by rw [c_1_4]; decide) (by rw [c_1_4]; rfl) (by decide) ?_
    refine lv_aload_n hx hb dX6_counted_79 rfl (lv_at hl 0 rfl) ?_
    refine lv_iconst (v := 2) hx hb dX6_counted_80 rfl ?_
    obtain ⟨r81, hc, h⟩ := bw_b1_e h
    refine bw_callV S hK hZ hI (mX6_ofProjects l G cy g a z rows asd sm buf bm th od om ow ca bo la pl to rd hh 2 r81 hc) Y_X6_ofProjects V_X6_ofProjects l_X6_189 ⟨(Nat.le_of_ble_eq_true rfl), (Nat.le_of_ble_eq_true rfl)⟩ (q0 := 0) rfl rfl rfl (ws' := (bw_mW cy a z rows asd sm buf bm th od om ow ca bo la pl to rd hh)) (bw_pS _) (bw_pS' _) rfl rfl hl.1 (rest := []) (st1 := [.int r81]) rfl rfl (Nat.le_of_ble_eq_true rfl) dX6_counted_81 ⟨Nat.le_refl _, Nat.le_refl _⟩ (fun H locs hI => ?_)
    subst hQ
    exact bw_iretP S hr hlocks h hI rfl dX6_counted_84
  rw [if_neg c_1_4] at h
  by_cases c_1_5 : p1 = 5
  · rw [if_pos c_1_5] at h
    refine lv_tableIn (tgt := 85) hx hb dX6_counted_1 (by rw [c_1_5]; decide) (by rw [c_1_5]; decide) (by rw [c_1_5]; rfl) (by decide) ?_
    refine lv_aload_n hx hb dX6_counted_85 rfl (lv_at hl 0 rfl) ?_
    refine lv_bipush (v := 6) hx hb dX6_counted_86 (by decide) ?_
    obtain ⟨r88, hc, h⟩ := bw_b1_e h
    refine bw_callV S hK hZ hI (mX6_ofProjects l G cy g a z rows asd sm buf bm th od om ow ca bo la pl to rd hh 6 r88 hc) Y_X6_ofProjects V_X6_ofProjects l_X6_189 ⟨(Nat.le_of_ble_eq_true rfl), (Nat.le_of_ble_eq_true rfl)⟩ (q0 := 0) rfl rfl rfl (ws' := (bw_mW cy a z rows asd sm buf bm th od om ow ca bo la pl to rd hh)) (bw_pS _) (bw_pS' _) rfl rfl hl.1 (rest := []) (st1 := [.int r88]) rfl rfl (Nat.le_of_ble_eq_true rfl) dX6_counted_88 ⟨Nat.le_refl _, Nat.le_refl _⟩ (fun H locs hI => ?_)
    subst hQ
    exact bw_iretP S hr hlocks h hI rfl dX6_counted_91
  rw [if_neg c_1_5] at h
  by_cases c_1_6 : p1 = 6
  · rw [if_pos c_1_6] at h
    refine lv_tableIn (tgt := 92) hx hb dX6_counted_1 (by rw [c_1_6]; decide) (by rw [c_1_6]; decide) (by rw [c_1_6]; rfl) (by decide) ?_
    refine lv_aload_n hx hb dX6_counted_92 rfl (lv_at hl 0 rfl) ?_
    refine lv_bipush (v := 8) hx hb dX6_counted_93 (by decide) ?_
    obtain ⟨r95, hc, h⟩ := bw_b1_e h
    refine bw_callV S hK hZ hI (mX6_ofProjects l G cy g a z rows asd sm buf bm th od om ow ca bo la pl to rd hh 8 r95 hc) Y_X6_ofProjects V_X6_ofProjects l_X6_189 ⟨(Nat.le_of_ble_eq_true rfl), (Nat.le_of_ble_eq_true rfl)⟩ (q0 := 0) rfl rfl rfl (ws' := (bw_mW cy a z rows asd sm buf bm th od om ow ca bo la pl to rd hh)) (bw_pS _) (bw_pS' _) rfl rfl hl.1 (rest := []) (st1 := [.int r95]) rfl rfl (Nat.le_of_ble_eq_true rfl) dX6_counted_95 ⟨Nat.le_refl _, Nat.le_refl _⟩ (fun H locs hI => ?_)
    subst hQ
    exact bw_iretP S hr hlocks h hI rfl dX6_counted_98
  rw [if_neg c_1_6] at h
  by_cases c_1_7 : p1 = 7
  · rw [if_pos c_1_7] at h
    refine lv_tableIn (tgt := 99) hx hb dX6_counted_1 (by rw [c_1_7]; decide) (by rw [c_1_7]; decide) (by rw [c_1_7]; rfl) (by decide) ?_
    refine lv_aload_n hx hb dX6_counted_99 rfl (lv_at hl 0 rfl) ?_
    obtain ⟨r100, hc, h⟩ := bw_b1_e h
    refine bw_callV S hK hZ hI (mX6_delays l G cy g a z rows asd sm buf bm th od om ow ca bo la pl to rd hh r100 hc) Y_X6_delays V_X6_delays l_X6_192 ⟨(Nat.le_of_ble_eq_true rfl), (Nat.le_of_ble_eq_true rfl)⟩ (q0 := 0) rfl rfl rfl (ws' := (bw_mW cy a z rows asd sm buf bm th od om ow ca bo la pl to rd hh)) (bw_pS _) (bw_pS' _) rfl rfl hl.1 (rest := []) (st1 := [.int r100]) rfl rfl (Nat.le_of_ble_eq_true rfl) dX6_counted_100 ⟨Nat.le_refl _, Nat.le_refl _⟩ (fun H locs hI => ?_)
    subst hQ
    exact bw_iretP S hr hlocks h hI rfl dX6_counted_103
  rw [if_neg c_1_7] at h
  by_cases c_1_8 : p1 = 8
  · rw [if_pos c_1_8] at h
    refine lv_tableIn (tgt := 104) hx hb dX6_counted_1 (by rw [c_1_8]; decide) (by rw [c_1_8]; decide) (by rw [c_1_8]; rfl) (by decide) ?_
    refine lv_aload_n hx hb dX6_counted_104 rfl (lv_at hl 0 rfl) ?_
    refine bw_get S hK hI 0 0 rfl rfl (by decide) i_X6 f_X6_7 rfl dX6_counted_105 ?_
    refine lv_iconst (v := 2) hx hb dX6_counted_108 rfl ?_
    obtain ⟨v109, hv, h⟩ := bw_b1_e h
    refine bw_iald hx hb hK hI 1 hv rfl dX6_counted_109 ?_
    subst hQ
    exact bw_iretP S hr hlocks h hI rfl dX6_counted_110
  rw [if_neg c_1_8] at h
  have t_0 := bw_nei c_1_0
  have t_1 := bw_nei c_1_1
  have t_2 := bw_nei c_1_2
  have t_3 := bw_nei c_1_3
  have t_4 := bw_nei c_1_4
  have t_5 := bw_nei c_1_5
  have t_6 := bw_nei c_1_6
  have t_7 := bw_nei c_1_7
  have t_8 := bw_nei c_1_8
  refine lv_tableOut (tgt := 111) hx hb dX6_counted_1 (bw_out9 t_0 t_1 t_2 t_3 t_4 t_5 t_6 t_7 t_8) (by decide) ?_
  refine lv_aload_n hx hb dX6_counted_111 rfl (lv_at hl 0 rfl) ?_
  refine bw_get S hK hI 0 3 rfl rfl (by decide) i_X6 f_X6_32 rfl dX6_counted_112 ?_
  subst hQ
  exact bw_iretP S hr hlocks h hI rfl dX6_counted_115
set_option maxHeartbeats 4000000 in
set_option maxRecDepth 100000 in
theorem mX6_count (l : Launch) (G : va_G) (cy : Nat → ClassId) (g : Nat) (a : Nat → Nat) (z : bw_A1) (rows : bw_A1) (asd : bw_A1) (sm : Int32) (buf : bw_A1) (bm : Int32) (th : Int32) (od : bw_A1) (om : Int32) (ow : Int32) (ca : Int32) (bo : Int32) (la : Int32) (pl : Int32) (to : Int32) (rd : bw_A1) (hh : Int64) (p1 : Int32) (r : Int32) (th' : Int32) (h : fX6_count z sm th p1 = some (r, th')) : bw_M l yX6_count cX6_count 2 (some .int) 6 131 G cy g [.ref (a 0), .int p1] (bw_mW cy a z rows asd sm buf bm th od om ow ca bo la pl to rd hh) (some (.int r)) (bw_mW cy a z rows asd sm buf bm th' od om ow ca bo la pl to rd hh) := by
  refine bw_ofW (by decide +kernel) RX6 rfl (Nat.le_of_ble_eq_true rfl) ?_
  intro p e s m below meth c ls S hr hlocks hK hZ hI hl
  have hx := S.1
  have hb := S.2.1
  have hown := S.2.2.2.1
  have hts := S.2.2.2.2
  generalize va_A _ s.heap.size = A at hI hZ ⊢
  generalize hQ : MQ below _ _ s 0 0 A = Q
  have hl : lv_has ls 2 [(0, .ref (a 0)), (1, .int p1)] := hl
  unfold fX6_count at h
  refine lv_aload_n hx hb dX6_count_0 rfl (lv_at hl 0 rfl) ?_
  refine lv_iconst (v := 0) hx hb dX6_count_1 rfl ?_
  refine bw_put S hK hI 0 6 (ws' := (bw_mW cy a z rows asd sm buf bm 0 od om ow ca bo la pl to rd hh)) tyX6 tyX6_ok nmX6 rfl rfl (by decide) i_X6 f_X6_28 rfl rfl rfl rfl (Nat.le_of_ble_eq_true rfl) rfl dX6_count_2 (fun H locs hI => ?_)
  refine lv_iload_n hx hb dX6_count_5 rfl (lv_at hl 1 rfl) ?_
  refine lv_iconst (v := 0) hx hb dX6_count_6 rfl ?_
  refine lv_bipush (v := 9) hx hb dX6_count_7 (by decide) ?_
  obtain ⟨r9, hc, h⟩ := bw_b1_e h
  refine bw_callP S hK hZ hI (mX6_in l G cy g p1 0 9 r9 hc) Y_X6_in V_X6_in l_X6_35 ⟨(Nat.le_of_ble_eq_true rfl), (Nat.le_of_ble_eq_true rfl)⟩ (rest := []) (st1 := [.int r9]) rfl hl.1 rfl rfl (Nat.le_of_ble_eq_true rfl) dX6_count_9 ⟨Nat.le_refl _, Nat.le_refl _⟩ (fun H locs hI => ?_)
  refine lv_if_eq (tgt := 23) hx hb dX6_count_12 (by decide) (fun c_12 => ?_) (fun c_12 => ?_)
  · rw [if_pos c_12] at h
    refine lv_aload_n hx hb dX6_count_23 rfl (lv_at hl 0 rfl) ?_
    refine lv_iconst (v := 1) hx hb dX6_count_24 rfl ?_
    obtain ⟨r25, th_25, hc, h⟩ := bw_b2_e h
    refine bw_callV S hK hZ hI (mX6_fails l G cy g a z rows asd sm buf bm 0 od om ow ca bo la pl to rd hh 1 r25 th_25 hc) Y_X6_fails V_X6_fails l_X6_114 ⟨(Nat.le_of_ble_eq_true rfl), (Nat.le_of_ble_eq_true rfl)⟩ (q0 := 0) rfl rfl rfl (ws' := (bw_mW cy a z rows asd sm buf bm th_25 od om ow ca bo la pl to rd hh)) (bw_pS _) (bw_pS' _) rfl rfl hl.1 (rest := []) (st1 := [.int r25]) rfl rfl (Nat.le_of_ble_eq_true rfl) dX6_count_25 ⟨Nat.le_refl _, Nat.le_refl _⟩ (fun H locs hI => ?_)
    subst hQ
    exact bw_iret (rr := (r, th')) S hr hlocks h (fun q : Int32 => (bw_mW cy a z rows asd sm buf bm q od om ow ca bo la pl to rd hh)) hI rfl dX6_count_28
  rw [if_neg c_12] at h
  refine lv_aload_n hx hb dX6_count_15 rfl (lv_at hl 0 rfl) ?_
  refine lv_iload_n hx hb dX6_count_16 rfl (lv_at hl 1 rfl) ?_
  obtain ⟨r17, hc, h⟩ := bw_b1_e h
  refine bw_callV S hK hZ hI (mX6_counted l G cy g a z rows asd sm buf bm 0 od om ow ca bo la pl to rd hh p1 r17 hc) Y_X6_counted V_X6_counted l_X6_195 ⟨(Nat.le_of_ble_eq_true rfl), (Nat.le_of_ble_eq_true rfl)⟩ (q0 := 0) rfl rfl rfl (ws' := (bw_mW cy a z rows asd sm buf bm 0 od om ow ca bo la pl to rd hh)) (bw_pS _) (bw_pS' _) rfl rfl hl.1 (rest := []) (st1 := [.int r17]) rfl rfl (Nat.le_of_ble_eq_true rfl) dX6_count_17 ⟨Nat.le_refl _, Nat.le_refl _⟩ (fun H locs hI => ?_)
  refine lv_goto (tgt := 28) hx hb dX6_count_20 (by decide) ?_
  subst hQ
  exact bw_iret (rr := (r, th')) S hr hlocks h (fun q : Int32 => (bw_mW cy a z rows asd sm buf bm q od om ow ca bo la pl to rd hh)) hI rfl dX6_count_28
set_option maxHeartbeats 4000000 in
set_option maxRecDepth 100000 in
theorem mX6_setting (l : Launch) (G : va_G) (cy : Nat → ClassId) (g : Nat) (a : Nat → Nat) (z : bw_A1) (rows : bw_A1) (asd : bw_A1) (sm : Int32) (buf : bw_A1) (bm : Int32) (th : Int32) (od : bw_A1) (om : Int32) (ow : Int32) (ca : Int32) (bo : Int32) (la : Int32) (pl : Int32) (to : Int32) (rd : bw_A1) (hh : Int64) (p1 : Int32) (r : Int32) (th' : Int32) (h : fX6_setting z th p1 = some (r, th')) : bw_M l yX6_setting cX6_setting 2 (some .int) 1 22 G cy g [.ref (a 0), .int p1] (bw_mW cy a z rows asd sm buf bm th od om ow ca bo la pl to rd hh) (some (.int r)) (bw_mW cy a z rows asd sm buf bm th' od om ow ca bo la pl to rd hh) := by
  refine bw_ofW (by decide +kernel) RX6 rfl (Nat.le_of_ble_eq_true rfl) ?_
  intro p e s m below meth c ls S hr hlocks hK hZ hI hl
  have hx := S.1
  have hb := S.2.1
  have hown := S.2.2.2.1
  have hts := S.2.2.2.2
  generalize va_A _ s.heap.size = A at hI hZ ⊢
  generalize hQ : MQ below _ _ s 0 0 A = Q
  have hl : lv_has ls 2 [(0, .ref (a 0)), (1, .int p1)] := hl
  unfold fX6_setting at h
  refine lv_aload_n hx hb dX6_setting_0 rfl (lv_at hl 0 rfl) ?_
  refine lv_iconst (v := 0) hx hb dX6_setting_1 rfl ?_
  refine bw_put S hK hI 0 6 (ws' := (bw_mW cy a z rows asd sm buf bm 0 od om ow ca bo la pl to rd hh)) tyX6 tyX6_ok nmX6 rfl rfl (by decide) i_X6 f_X6_28 rfl rfl rfl rfl (Nat.le_of_ble_eq_true rfl) rfl dX6_setting_2 (fun H locs hI => ?_)
  refine lv_iload_n hx hb dX6_setting_5 rfl (lv_at hl 1 rfl) ?_
  refine lv_iconst (v := 0) hx hb dX6_setting_6 rfl ?_
  refine lv_iconst (v := 2) hx hb dX6_setting_7 rfl ?_
  obtain ⟨r8, hc, h⟩ := bw_b1_e h
  refine bw_callP S hK hZ hI (mX6_in l G cy g p1 0 2 r8 hc) Y_X6_in V_X6_in l_X6_35 ⟨(Nat.le_of_ble_eq_true rfl), (Nat.le_of_ble_eq_true rfl)⟩ (rest := []) (st1 := [.int r8]) rfl hl.1 rfl rfl (Nat.le_of_ble_eq_true rfl) dX6_setting_8 ⟨Nat.le_refl _, Nat.le_refl _⟩ (fun H locs hI => ?_)
  refine lv_if_eq (tgt := 25) hx hb dX6_setting_11 (by decide) (fun c_11 => ?_) (fun c_11 => ?_)
  · rw [if_pos c_11] at h
    refine lv_aload_n hx hb dX6_setting_25 rfl (lv_at hl 0 rfl) ?_
    refine lv_iconst (v := 1) hx hb dX6_setting_26 rfl ?_
    obtain ⟨r27, th_27, hc, h⟩ := bw_b2_e h
    refine bw_callV S hK hZ hI (mX6_fails l G cy g a z rows asd sm buf bm 0 od om ow ca bo la pl to rd hh 1 r27 th_27 hc) Y_X6_fails V_X6_fails l_X6_114 ⟨(Nat.le_of_ble_eq_true rfl), (Nat.le_of_ble_eq_true rfl)⟩ (q0 := 0) rfl rfl rfl (ws' := (bw_mW cy a z rows asd sm buf bm th_27 od om ow ca bo la pl to rd hh)) (bw_pS _) (bw_pS' _) rfl rfl hl.1 (rest := []) (st1 := [.int r27]) rfl rfl (Nat.le_of_ble_eq_true rfl) dX6_setting_27 ⟨Nat.le_refl _, Nat.le_refl _⟩ (fun H locs hI => ?_)
    subst hQ
    exact bw_iret (rr := (r, th')) S hr hlocks h (fun q : Int32 => (bw_mW cy a z rows asd sm buf bm q od om ow ca bo la pl to rd hh)) hI rfl dX6_setting_30
  rw [if_neg c_11] at h
  refine lv_aload_n hx hb dX6_setting_14 rfl (lv_at hl 0 rfl) ?_
  refine bw_get S hK hI 0 0 rfl rfl (by decide) i_X6 f_X6_7 rfl dX6_setting_15 ?_
  refine lv_iconst (v := 3) hx hb dX6_setting_18 rfl ?_
  refine lv_iload_n hx hb dX6_setting_19 rfl (lv_at hl 1 rfl) ?_
  refine lv_iadd hx hb dX6_setting_20 ?_
  obtain ⟨v21, hv, h⟩ := bw_b1_e h
  refine bw_iald hx hb hK hI 1 hv rfl dX6_setting_21 ?_
  refine lv_goto (tgt := 30) hx hb dX6_setting_22 (by decide) ?_
  subst hQ
  exact bw_iret (rr := (r, th')) S hr hlocks h (fun q : Int32 => (bw_mW cy a z rows asd sm buf bm q od om ow ca bo la pl to rd hh)) hI rfl dX6_setting_30
set_option maxHeartbeats 4000000 in
set_option maxRecDepth 100000 in
theorem mX6_doneOf (l : Launch) (G : va_G) (cy : Nat → ClassId) (g : Nat) (a : Nat → Nat) (z : bw_A1) (rows : bw_A1) (asd : bw_A1) (sm : Int32) (buf : bw_A1) (bm : Int32) (th : Int32) (od : bw_A1) (om : Int32) (ow : Int32) (ca : Int32) (bo : Int32) (la : Int32) (pl : Int32) (to : Int32) (rd : bw_A1) (hh : Int64) (p1 : Int32) (p2 : Int32) (p3 : Int32) (r : Int32) (z' : bw_A1) (asd' : bw_A1) (od' : bw_A1) (om' : Int32) (ow' : Int32) (ca' : Int32) (bo' : Int32) (la' : Int32) (h : fX6_doneOf z asd od om ow ca bo la p1 p2 p3 = some (r, z', asd', od', om', ow', ca', bo', la')) : bw_M l yX6_doneOf cX6_doneOf 5 (some .int) 8 184 G cy g [.ref (a 0), .int p1, .int p2, .int p3] (bw_mW cy a z rows asd sm buf bm th od om ow ca bo la pl to rd hh) (some (.int r)) (bw_mW cy a z' rows asd' sm buf bm th od' om' ow' ca' bo' la' pl to rd hh) := by
  refine bw_ofW (by decide +kernel) RX6 rfl (Nat.le_of_ble_eq_true rfl) ?_
  intro p e s m below meth c ls S hr hlocks hK hZ hI hl
  have hx := S.1
  have hb := S.2.1
  have hown := S.2.2.2.1
  have hts := S.2.2.2.2
  generalize va_A _ s.heap.size = A at hI hZ ⊢
  generalize hQ : MQ below _ _ s 0 0 A = Q
  have hl : lv_has ls 5 [(0, .ref (a 0)), (1, .int p1), (2, .int p2), (3, .int p3)] := hl
  have j79 : ∀ (z : bw_A1) (asd : bw_A1) (od : bw_A1) (om : Int32) (ow : Int32) (ca : Int32) (bo : Int32) (la : Int32) (s0 : Int32) (H : Heap) (locs : List Loc) (ls : Array Slot), jX6_doneOf_79 z asd od om ow ca bo la s0 = some (r, z', asd', od', om', ow', ca', bo', la') → bw_I G A s.heap (bw_mW cy a z rows asd sm buf bm th od om ow ca bo la pl to rd hh) H locs → lv_has ls 5 [(0, .ref (a 0))] → W p l e (bw_rm 8 184) s m [.ref (a 0), .int p1, .int p2, .int p3].toArray below meth c H locs 0 0 Q (F0 m 79 ls [.int s0]) := by
    intro z asd od om ow ca bo la s0 H locs ls h hI hl
    unfold jX6_doneOf_79 at h
    refine lv_istore (lv' := [(4, .int s0), (0, .ref (a 0))]) hx hb dX6_doneOf_79 hl (by decide) rfl (fun ls hl => ?_)
    refine lv_aload_n hx hb dX6_doneOf_81 rfl (lv_at hl 1 rfl) ?_
    obtain ⟨z_82, hc, h⟩ := bw_b1_e h
    refine bw_callV S hK hZ hI (mX6_putBack l G cy g a z rows asd sm buf bm th od om ow ca bo la pl to rd hh z_82 hc) Y_X6_putBack V_X6_putBack l_X6_201 ⟨(Nat.le_of_ble_eq_true rfl), (Nat.le_of_ble_eq_true rfl)⟩ (q0 := 0) rfl rfl rfl (ws' := (bw_mW cy a z_82 rows asd sm buf bm th od om ow ca bo la pl to rd hh)) (bw_pS _) (bw_pS' _) rfl rfl hl.1 (rest := []) (st1 := []) rfl rfl (Nat.le_of_ble_eq_true rfl) dX6_doneOf_82 ⟨Nat.le_refl _, Nat.le_refl _⟩ (fun H locs hI => ?_)
    refine lv_iload hx hb dX6_doneOf_85 (lv_at hl 0 rfl) ?_
    subst hQ
    exact bw_iret (rr := (r, z', asd', od', om', ow', ca', bo', la')) S hr hlocks h (fun q : (bw_A1 × bw_A1 × bw_A1 × Int32 × Int32 × Int32 × Int32 × Int32) => (bw_mW cy a q.1 rows q.2.1 sm buf bm th q.2.2.1 q.2.2.2.1 q.2.2.2.2.1 q.2.2.2.2.2.1 q.2.2.2.2.2.2.1 q.2.2.2.2.2.2.2 pl to rd hh)) hI rfl dX6_doneOf_87
  unfold fX6_doneOf at h
  refine lv_aload_n hx hb dX6_doneOf_0 rfl (lv_at hl 0 rfl) ?_
  refine lv_iload_n hx hb dX6_doneOf_1 rfl (lv_at hl 1 rfl) ?_
  obtain ⟨r2, hc, h⟩ := bw_b1_e h
  refine bw_callV S hK hZ hI (mX6_mayDo l G cy g a z rows asd sm buf bm th od om ow ca bo la pl to rd hh p1 r2 hc) Y_X6_mayDo V_X6_mayDo l_X6_129 ⟨(Nat.le_of_ble_eq_true rfl), (Nat.le_of_ble_eq_true rfl)⟩ (q0 := 0) rfl rfl rfl (ws' := (bw_mW cy a z rows asd sm buf bm th od om ow ca bo la pl to rd hh)) (bw_pS _) (bw_pS' _) rfl rfl hl.1 (rest := []) (st1 := [.int r2]) rfl rfl (Nat.le_of_ble_eq_true rfl) dX6_doneOf_2 ⟨Nat.le_refl _, Nat.le_refl _⟩ (fun H locs hI => ?_)
  refine lv_if_ne (tgt := 10) hx hb dX6_doneOf_5 (by decide) (fun c_5 => ?_) (fun c_5 => ?_)
  · rw [if_neg c_5] at h
    refine lv_aload_n hx hb dX6_doneOf_10 rfl (lv_at hl 0 rfl) ?_
    obtain ⟨asd_11, hc, h⟩ := bw_b1_e h
    refine bw_callV S hK hZ hI (mX6_putAside l G cy g a z rows asd sm buf bm th od om ow ca bo la pl to rd hh asd_11 hc) Y_X6_putAside V_X6_putAside l_X6_198 ⟨(Nat.le_of_ble_eq_true rfl), (Nat.le_of_ble_eq_true rfl)⟩ (q0 := 0) rfl rfl rfl (ws' := (bw_mW cy a z rows asd_11 sm buf bm th od om ow ca bo la pl to rd hh)) (bw_pS _) (bw_pS' _) rfl rfl hl.1 (rest := []) (st1 := []) rfl rfl (Nat.le_of_ble_eq_true rfl) dX6_doneOf_11 ⟨Nat.le_refl _, Nat.le_refl _⟩ (fun H locs hI => ?_)
    refine lv_aload_n hx hb dX6_doneOf_14 rfl (lv_at hl 0 rfl) ?_
    refine lv_iload_n hx hb dX6_doneOf_15 rfl (lv_at hl 1 rfl) ?_
    refine lv_iload_n hx hb dX6_doneOf_16 rfl (lv_at hl 2 rfl) ?_
    obtain ⟨z_17, od_17, om_17, ow_17, ca_17, bo_17, la_17, hc, h⟩ := bw_b7_e h
    refine bw_callV S hK hZ hI (mX6_doNow l G cy g a z rows asd_11 sm buf bm th od om ow ca bo la pl to rd hh p1 p2 z_17 od_17 om_17 ow_17 ca_17 bo_17 la_17 hc) Y_X6_doNow V_X6_doNow l_X6_132 ⟨(Nat.le_of_ble_eq_true rfl), (Nat.le_of_ble_eq_true rfl)⟩ (q0 := 0) rfl rfl rfl (ws' := (bw_mW cy a z_17 rows asd_11 sm buf bm th od_17 om_17 ow_17 ca_17 bo_17 la_17 pl to rd hh)) (bw_pS _) (bw_pS' _) rfl rfl hl.1 (rest := []) (st1 := []) rfl rfl (Nat.le_of_ble_eq_true rfl) dX6_doneOf_17 ⟨Nat.le_refl _, Nat.le_refl _⟩ (fun H locs hI => ?_)
    refine lv_iload_n hx hb dX6_doneOf_20 rfl (lv_at hl 3 rfl) ?_
    refine lv_if_ne (tgt := 31) hx hb dX6_doneOf_21 (by decide) (fun c_21 => ?_) (fun c_21 => ?_)
    · rw [if_neg c_21] at h
      refine lv_iload_n hx hb dX6_doneOf_31 rfl (lv_at hl 3 rfl) ?_
      refine lv_iconst (v := 1) hx hb dX6_doneOf_32 rfl ?_
      refine lv_icmp_ne (tgt := 43) hx hb dX6_doneOf_33 (by decide) (fun c_33 => ?_) (fun c_33 => ?_)
      · rw [if_neg c_33] at h
        refine lv_iload_n hx hb dX6_doneOf_43 rfl (lv_at hl 3 rfl) ?_
        refine lv_iconst (v := 2) hx hb dX6_doneOf_44 rfl ?_
        refine lv_icmp_ne (tgt := 55) hx hb dX6_doneOf_45 (by decide) (fun c_45 => ?_) (fun c_45 => ?_)
        · rw [if_neg c_45] at h
          refine lv_iload_n hx hb dX6_doneOf_55 rfl (lv_at hl 3 rfl) ?_
          refine lv_iconst (v := 3) hx hb dX6_doneOf_56 rfl ?_
          refine lv_icmp_ne (tgt := 74) hx hb dX6_doneOf_57 (by decide) (fun c_57 => ?_) (fun c_57 => ?_)
          · rw [if_neg c_57] at h
            refine lv_aload_n hx hb dX6_doneOf_74 rfl (lv_at hl 0 rfl) ?_
            refine lv_iload_n hx hb dX6_doneOf_75 rfl (lv_at hl 1 rfl) ?_
            obtain ⟨r76, hc, h⟩ := bw_b1_e h
            refine bw_callV S hK hZ hI (mX6_owedBy l G cy g a z_17 rows asd_11 sm buf bm th od_17 om_17 ow_17 ca_17 bo_17 la_17 pl to rd hh p1 r76 hc) Y_X6_owedBy V_X6_owedBy l_X6_170 ⟨(Nat.le_of_ble_eq_true rfl), (Nat.le_of_ble_eq_true rfl)⟩ (q0 := 0) rfl rfl rfl (ws' := (bw_mW cy a z_17 rows asd_11 sm buf bm th od_17 om_17 ow_17 ca_17 bo_17 la_17 pl to rd hh)) (bw_pS _) (bw_pS' _) rfl rfl hl.1 (rest := []) (st1 := [.int r76]) rfl rfl (Nat.le_of_ble_eq_true rfl) dX6_doneOf_76 ⟨Nat.le_refl _, Nat.le_refl _⟩ (fun H locs hI => ?_)
            exact j79 z_17 asd_11 od_17 om_17 ow_17 ca_17 bo_17 la_17 r76 _ _ _ h hI (lv_sub hl [0] rfl)
          rw [if_pos c_57] at h
          refine lv_aload_n hx hb dX6_doneOf_60 rfl (lv_at hl 0 rfl) ?_
          refine bw_get S hK hI 0 0 rfl rfl (by decide) i_X6 f_X6_7 rfl dX6_doneOf_61 ?_
          refine lv_iload_n hx hb dX6_doneOf_64 rfl (lv_at hl 1 rfl) ?_
          obtain ⟨r65, hc, h⟩ := bw_b1_e h
          refine bw_callP S hK hZ hI (mX6_at l G cy g p1 r65 hc) Y_X6_at V_X6_at l_X6_39 ⟨(Nat.le_of_ble_eq_true rfl), (Nat.le_of_ble_eq_true rfl)⟩ (rest := [.ref (a 1)]) (st1 := [.int r65, .ref (a 1)]) rfl hl.1 rfl rfl (Nat.le_of_ble_eq_true rfl) dX6_doneOf_65 ⟨Nat.le_refl _, Nat.le_refl _⟩ (fun H locs hI => ?_)
          refine lv_iconst (v := 2) hx hb dX6_doneOf_68 rfl ?_
          refine lv_iadd hx hb dX6_doneOf_69 ?_
          obtain ⟨v70, hv, h⟩ := bw_b1_e h
          refine bw_iald hx hb hK hI 1 hv rfl dX6_doneOf_70 ?_
          refine lv_goto (tgt := 79) hx hb dX6_doneOf_71 (by decide) ?_
          exact j79 z_17 asd_11 od_17 om_17 ow_17 ca_17 bo_17 la_17 v70 _ _ _ h hI (lv_sub hl [0] rfl)
        rw [if_pos c_45] at h
        refine lv_aload_n hx hb dX6_doneOf_48 rfl (lv_at hl 0 rfl) ?_
        refine bw_get S hK hI 0 10 rfl rfl (by decide) i_X6 f_X6_80 rfl dX6_doneOf_49 ?_
        refine lv_goto (tgt := 79) hx hb dX6_doneOf_52 (by decide) ?_
        exact j79 z_17 asd_11 od_17 om_17 ow_17 ca_17 bo_17 la_17 ca_17 _ _ _ h hI (lv_sub hl [0] rfl)
      rw [if_pos c_33] at h
      refine lv_aload_n hx hb dX6_doneOf_36 rfl (lv_at hl 0 rfl) ?_
      refine bw_get S hK hI 0 11 rfl rfl (by decide) i_X6 f_X6_90 rfl dX6_doneOf_37 ?_
      refine lv_goto (tgt := 79) hx hb dX6_doneOf_40 (by decide) ?_
      exact j79 z_17 asd_11 od_17 om_17 ow_17 ca_17 bo_17 la_17 bo_17 _ _ _ h hI (lv_sub hl [0] rfl)
    rw [if_pos c_21] at h
    refine lv_aload_n hx hb dX6_doneOf_24 rfl (lv_at hl 0 rfl) ?_
    refine bw_get S hK hI 0 12 rfl rfl (by decide) i_X6 f_X6_93 rfl dX6_doneOf_25 ?_
    refine lv_goto (tgt := 79) hx hb dX6_doneOf_28 (by decide) ?_
    exact j79 z_17 asd_11 od_17 om_17 ow_17 ca_17 bo_17 la_17 la_17 _ _ _ h hI (lv_sub hl [0] rfl)
  rw [if_pos c_5] at h
  refine lv_iconst (v := (-1)) hx hb dX6_doneOf_8 rfl ?_
  subst hQ
  exact bw_iret (rr := (r, z', asd', od', om', ow', ca', bo', la')) S hr hlocks h (fun q : (bw_A1 × bw_A1 × bw_A1 × Int32 × Int32 × Int32 × Int32 × Int32) => (bw_mW cy a q.1 rows q.2.1 sm buf bm th q.2.2.1 q.2.2.2.1 q.2.2.2.2.1 q.2.2.2.2.2.1 q.2.2.2.2.2.2.1 q.2.2.2.2.2.2.2 pl to rd hh)) hI rfl dX6_doneOf_9
set_option maxHeartbeats 4000000 in
set_option maxRecDepth 100000 in
theorem mX6_ifDone (l : Launch) (G : va_G) (cy : Nat → ClassId) (g : Nat) (a : Nat → Nat) (z : bw_A1) (rows : bw_A1) (asd : bw_A1) (sm : Int32) (buf : bw_A1) (bm : Int32) (th : Int32) (od : bw_A1) (om : Int32) (ow : Int32) (ca : Int32) (bo : Int32) (la : Int32) (pl : Int32) (to : Int32) (rd : bw_A1) (hh : Int64) (p1 : Int32) (p2 : Int32) (p3 : Int32) (r : Int32) (z' : bw_A1) (asd' : bw_A1) (th' : Int32) (od' : bw_A1) (om' : Int32) (ow' : Int32) (ca' : Int32) (bo' : Int32) (la' : Int32) (h : fX6_ifDone z asd th od om ow ca bo la p1 p2 p3 = some (r, z', asd', th', od', om', ow', ca', bo', la')) : bw_M l yX6_ifDone cX6_ifDone 4 (some .int) 9 208 G cy g [.ref (a 0), .int p1, .int p2, .int p3] (bw_mW cy a z rows asd sm buf bm th od om ow ca bo la pl to rd hh) (some (.int r)) (bw_mW cy a z' rows asd' sm buf bm th' od' om' ow' ca' bo' la' pl to rd hh) := by
  refine bw_ofW (by decide +kernel) RX6 rfl (Nat.le_of_ble_eq_true rfl) ?_
  intro p e s m below meth c ls S hr hlocks hK hZ hI hl
  have hx := S.1
  have hb := S.2.1
  have hown := S.2.2.2.1
  have hts := S.2.2.2.2
  generalize va_A _ s.heap.size = A at hI hZ ⊢
  generalize hQ : MQ below _ _ s 0 0 A = Q
  have hl : lv_has ls 4 [(0, .ref (a 0)), (1, .int p1), (2, .int p2), (3, .int p3)] := hl
  have j49 : ∀ (z : bw_A1) (asd : bw_A1) (th : Int32) (od : bw_A1) (om : Int32) (ow : Int32) (ca : Int32) (bo : Int32) (la : Int32) (H : Heap) (locs : List Loc) (ls : Array Slot), jX6_ifDone_49 z asd th od om ow ca bo la = some (r, z', asd', th', od', om', ow', ca', bo', la') → bw_I G A s.heap (bw_mW cy a z rows asd sm buf bm th od om ow ca bo la pl to rd hh) H locs → lv_has ls 4 [(0, .ref (a 0))] → W p l e (bw_rm 9 208) s m [.ref (a 0), .int p1, .int p2, .int p3].toArray below meth c H locs 0 0 Q (F0 m 49 ls []) := by
    intro z asd th od om ow ca bo la H locs ls h hI hl
    unfold jX6_ifDone_49 at h
    refine lv_aload_n hx hb dX6_ifDone_49 rfl (lv_at hl 0 rfl) ?_
    refine lv_iconst (v := 2) hx hb dX6_ifDone_50 rfl ?_
    obtain ⟨r51, th_51, hc, h⟩ := bw_b2_e h
    refine bw_callV S hK hZ hI (mX6_fails l G cy g a z rows asd sm buf bm th od om ow ca bo la pl to rd hh 2 r51 th_51 hc) Y_X6_fails V_X6_fails l_X6_114 ⟨(Nat.le_of_ble_eq_true rfl), (Nat.le_of_ble_eq_true rfl)⟩ (q0 := 0) rfl rfl rfl (ws' := (bw_mW cy a z rows asd sm buf bm th_51 od om ow ca bo la pl to rd hh)) (bw_pS _) (bw_pS' _) rfl rfl hl.1 (rest := []) (st1 := [.int r51]) rfl rfl (Nat.le_of_ble_eq_true rfl) dX6_ifDone_51 ⟨Nat.le_refl _, Nat.le_refl _⟩ (fun H locs hI => ?_)
    subst hQ
    exact bw_iret (rr := (r, z', asd', th', od', om', ow', ca', bo', la')) S hr hlocks h (fun q : (bw_A1 × bw_A1 × Int32 × bw_A1 × Int32 × Int32 × Int32 × Int32 × Int32) => (bw_mW cy a q.1 rows q.2.1 sm buf bm q.2.2.1 q.2.2.2.1 q.2.2.2.2.1 q.2.2.2.2.2.1 q.2.2.2.2.2.2.1 q.2.2.2.2.2.2.2.1 q.2.2.2.2.2.2.2.2 pl to rd hh)) hI rfl dX6_ifDone_54
  unfold fX6_ifDone at h
  refine lv_aload_n hx hb dX6_ifDone_0 rfl (lv_at hl 0 rfl) ?_
  refine lv_iconst (v := 0) hx hb dX6_ifDone_1 rfl ?_
  refine bw_put S hK hI 0 6 (ws' := (bw_mW cy a z rows asd sm buf bm 0 od om ow ca bo la pl to rd hh)) tyX6 tyX6_ok nmX6 rfl rfl (by decide) i_X6 f_X6_28 rfl rfl rfl rfl (Nat.le_of_ble_eq_true rfl) rfl dX6_ifDone_2 (fun H locs hI => ?_)
  refine lv_aload_n hx hb dX6_ifDone_5 rfl (lv_at hl 0 rfl) ?_
  refine lv_iload_n hx hb dX6_ifDone_6 rfl (lv_at hl 1 rfl) ?_
  obtain ⟨r7, hc, h⟩ := bw_b1_e h
  refine bw_callV S hK hZ hI (mX6_isProject l G cy g a z rows asd sm buf bm 0 od om ow ca bo la pl to rd hh p1 r7 hc) Y_X6_isProject V_X6_isProject l_X6_123 ⟨(Nat.le_of_ble_eq_true rfl), (Nat.le_of_ble_eq_true rfl)⟩ (q0 := 0) rfl rfl rfl (ws' := (bw_mW cy a z rows asd sm buf bm 0 od om ow ca bo la pl to rd hh)) (bw_pS _) (bw_pS' _) rfl rfl hl.1 (rest := []) (st1 := [.int r7]) rfl rfl (Nat.le_of_ble_eq_true rfl) dX6_ifDone_7 ⟨Nat.le_refl _, Nat.le_refl _⟩ (fun H locs hI => ?_)
  refine lv_if_ne (tgt := 19) hx hb dX6_ifDone_10 (by decide) (fun c_10 => ?_) (fun c_10 => ?_)
  · rw [if_neg c_10] at h
    refine lv_iload_n hx hb dX6_ifDone_19 rfl (lv_at hl 2 rfl) ?_
    refine lv_iconst (v := 0) hx hb dX6_ifDone_20 rfl ?_
    refine lv_sipush (v := 300) hx hb dX6_ifDone_21 (by decide) ?_
    obtain ⟨r24, hc, h⟩ := bw_b1_e h
    refine bw_callP S hK hZ hI (mX6_in l G cy g p2 0 300 r24 hc) Y_X6_in V_X6_in l_X6_35 ⟨(Nat.le_of_ble_eq_true rfl), (Nat.le_of_ble_eq_true rfl)⟩ (rest := []) (st1 := [.int r24]) rfl hl.1 rfl rfl (Nat.le_of_ble_eq_true rfl) dX6_ifDone_24 ⟨Nat.le_refl _, Nat.le_refl _⟩ (fun H locs hI => ?_)
    refine lv_if_eq (tgt := 49) hx hb dX6_ifDone_27 (by decide) (fun c_27 => ?_) (fun c_27 => ?_)
    · rw [if_pos c_27] at h
      exact j49 z asd 0 od om ow ca bo la _ _ _ h hI (lv_sub hl [0] rfl)
    rw [if_neg c_27] at h
    refine lv_iload_n hx hb dX6_ifDone_30 rfl (lv_at hl 3 rfl) ?_
    refine lv_iconst (v := 0) hx hb dX6_ifDone_31 rfl ?_
    refine lv_iconst (v := 4) hx hb dX6_ifDone_32 rfl ?_
    obtain ⟨r33, hc, h⟩ := bw_b1_e h
    refine bw_callP S hK hZ hI (mX6_in l G cy g p3 0 4 r33 hc) Y_X6_in V_X6_in l_X6_35 ⟨(Nat.le_of_ble_eq_true rfl), (Nat.le_of_ble_eq_true rfl)⟩ (rest := []) (st1 := [.int r33]) rfl hl.1 rfl rfl (Nat.le_of_ble_eq_true rfl) dX6_ifDone_33 ⟨Nat.le_refl _, Nat.le_refl _⟩ (fun H locs hI => ?_)
    refine lv_if_eq (tgt := 49) hx hb dX6_ifDone_36 (by decide) (fun c_36 => ?_) (fun c_36 => ?_)
    · rw [if_pos c_36] at h
      exact j49 z asd 0 od om ow ca bo la _ _ _ h hI (lv_sub hl [0] rfl)
    rw [if_neg c_36] at h
    refine lv_aload_n hx hb dX6_ifDone_39 rfl (lv_at hl 0 rfl) ?_
    refine lv_iload_n hx hb dX6_ifDone_40 rfl (lv_at hl 1 rfl) ?_
    refine lv_iload_n hx hb dX6_ifDone_41 rfl (lv_at hl 2 rfl) ?_
    refine lv_iload_n hx hb dX6_ifDone_42 rfl (lv_at hl 3 rfl) ?_
    obtain ⟨r43, z_43, asd_43, od_43, om_43, ow_43, ca_43, bo_43, la_43, hc, h⟩ := bw_b9_e h
    refine bw_callV S hK hZ hI (mX6_doneOf l G cy g a z rows asd sm buf bm 0 od om ow ca bo la pl to rd hh p1 p2 p3 r43 z_43 asd_43 od_43 om_43 ow_43 ca_43 bo_43 la_43 hc) Y_X6_doneOf V_X6_doneOf l_X6_204 ⟨(Nat.le_of_ble_eq_true rfl), (Nat.le_of_ble_eq_true rfl)⟩ (q0 := 0) rfl rfl rfl (ws' := (bw_mW cy a z_43 rows asd_43 sm buf bm 0 od_43 om_43 ow_43 ca_43 bo_43 la_43 pl to rd hh)) (bw_pS _) (bw_pS' _) rfl rfl hl.1 (rest := []) (st1 := [.int r43]) rfl rfl (Nat.le_of_ble_eq_true rfl) dX6_ifDone_43 ⟨Nat.le_refl _, Nat.le_refl _⟩ (fun H locs hI => ?_)
    refine lv_goto (tgt := 54) hx hb dX6_ifDone_46 (by decide) ?_
    subst hQ
    exact bw_iret (rr := (r, z', asd', th', od', om', ow', ca', bo', la')) S hr hlocks h (fun q : (bw_A1 × bw_A1 × Int32 × bw_A1 × Int32 × Int32 × Int32 × Int32 × Int32) => (bw_mW cy a q.1 rows q.2.1 sm buf bm q.2.2.1 q.2.2.2.1 q.2.2.2.2.1 q.2.2.2.2.2.1 q.2.2.2.2.2.2.1 q.2.2.2.2.2.2.2.1 q.2.2.2.2.2.2.2.2 pl to rd hh)) hI rfl dX6_ifDone_54
  rw [if_pos c_10] at h
  refine lv_aload_n hx hb dX6_ifDone_13 rfl (lv_at hl 0 rfl) ?_
  refine lv_iconst (v := 1) hx hb dX6_ifDone_14 rfl ?_
  obtain ⟨r15, th_15, hc, h⟩ := bw_b2_e h
  refine bw_callV S hK hZ hI (mX6_fails l G cy g a z rows asd sm buf bm 0 od om ow ca bo la pl to rd hh 1 r15 th_15 hc) Y_X6_fails V_X6_fails l_X6_114 ⟨(Nat.le_of_ble_eq_true rfl), (Nat.le_of_ble_eq_true rfl)⟩ (q0 := 0) rfl rfl rfl (ws' := (bw_mW cy a z rows asd sm buf bm th_15 od om ow ca bo la pl to rd hh)) (bw_pS _) (bw_pS' _) rfl rfl hl.1 (rest := []) (st1 := [.int r15]) rfl rfl (Nat.le_of_ble_eq_true rfl) dX6_ifDone_15 ⟨Nat.le_refl _, Nat.le_refl _⟩ (fun H locs hI => ?_)
  subst hQ
  exact bw_iret (rr := (r, z', asd', th', od', om', ow', ca', bo', la')) S hr hlocks h (fun q : (bw_A1 × bw_A1 × Int32 × bw_A1 × Int32 × Int32 × Int32 × Int32 × Int32) => (bw_mW cy a q.1 rows q.2.1 sm buf bm q.2.2.1 q.2.2.2.1 q.2.2.2.2.1 q.2.2.2.2.2.1 q.2.2.2.2.2.2.1 q.2.2.2.2.2.2.2.1 q.2.2.2.2.2.2.2.2 pl to rd hh)) hI rfl dX6_ifDone_18
set_option maxHeartbeats 4000000 in
set_option maxRecDepth 100000 in
theorem mX6_bornBy (l : Launch) (G : va_G) (cy : Nat → ClassId) (g : Nat) (a : Nat → Nat) (z : bw_A1) (rows : bw_A1) (asd : bw_A1) (sm : Int32) (buf : bw_A1) (bm : Int32) (th : Int32) (od : bw_A1) (om : Int32) (ow : Int32) (ca : Int32) (bo : Int32) (la : Int32) (pl : Int32) (to : Int32) (rd : bw_A1) (hh : Int64) (p1 : Int32) (r : Int32) (z' : bw_A1) (asd' : bw_A1) (od' : bw_A1) (om' : Int32) (ow' : Int32) (ca' : Int32) (bo' : Int32) (la' : Int32) (h : fX6_bornBy z asd od om ow ca bo la p1 = some (r, z', asd', od', om', ow', ca', bo', la')) : bw_M l yX6_bornBy cX6_bornBy 3 (some .int) 7 159 G cy g [.ref (a 0), .int p1] (bw_mW cy a z rows asd sm buf bm th od om ow ca bo la pl to rd hh) (some (.int r)) (bw_mW cy a z' rows asd' sm buf bm th od' om' ow' ca' bo' la' pl to rd hh) := by
  refine bw_ofW (by decide +kernel) RX6 rfl (Nat.le_of_ble_eq_true rfl) ?_
  intro p e s m below meth c ls S hr hlocks hK hZ hI hl
  have hx := S.1
  have hb := S.2.1
  have hown := S.2.2.2.1
  have hts := S.2.2.2.2
  generalize va_A _ s.heap.size = A at hI hZ ⊢
  generalize hQ : MQ below _ _ s 0 0 A = Q
  have hl : lv_has ls 3 [(0, .ref (a 0)), (1, .int p1)] := hl
  unfold fX6_bornBy at h
  refine lv_aload_n hx hb dX6_bornBy_0 rfl (lv_at hl 0 rfl) ?_
  refine lv_iload_n hx hb dX6_bornBy_1 rfl (lv_at hl 1 rfl) ?_
  obtain ⟨r2, hc, h⟩ := bw_b1_e h
  refine bw_callV S hK hZ hI (mX6_isOpen l G cy g a z rows asd sm buf bm th od om ow ca bo la pl to rd hh p1 r2 hc) Y_X6_isOpen V_X6_isOpen l_X6_43 ⟨(Nat.le_of_ble_eq_true rfl), (Nat.le_of_ble_eq_true rfl)⟩ (q0 := 0) rfl rfl rfl (ws' := (bw_mW cy a z rows asd sm buf bm th od om ow ca bo la pl to rd hh)) (bw_pS _) (bw_pS' _) rfl rfl hl.1 (rest := []) (st1 := [.int r2]) rfl rfl (Nat.le_of_ble_eq_true rfl) dX6_bornBy_2 ⟨Nat.le_refl _, Nat.le_refl _⟩ (fun H locs hI => ?_)
  refine lv_if_ne (tgt := 10) hx hb dX6_bornBy_5 (by decide) (fun c_5 => ?_) (fun c_5 => ?_)
  · rw [if_neg c_5] at h
    refine lv_aload_n hx hb dX6_bornBy_10 rfl (lv_at hl 0 rfl) ?_
    obtain ⟨asd_11, hc, h⟩ := bw_b1_e h
    refine bw_callV S hK hZ hI (mX6_putAside l G cy g a z rows asd sm buf bm th od om ow ca bo la pl to rd hh asd_11 hc) Y_X6_putAside V_X6_putAside l_X6_198 ⟨(Nat.le_of_ble_eq_true rfl), (Nat.le_of_ble_eq_true rfl)⟩ (q0 := 0) rfl rfl rfl (ws' := (bw_mW cy a z rows asd_11 sm buf bm th od om ow ca bo la pl to rd hh)) (bw_pS _) (bw_pS' _) rfl rfl hl.1 (rest := []) (st1 := []) rfl rfl (Nat.le_of_ble_eq_true rfl) dX6_bornBy_11 ⟨Nat.le_refl _, Nat.le_refl _⟩ (fun H locs hI => ?_)
    refine lv_aload_n hx hb dX6_bornBy_14 rfl (lv_at hl 0 rfl) ?_
    refine lv_iload_n hx hb dX6_bornBy_15 rfl (lv_at hl 1 rfl) ?_
    refine lv_ldc hx hb hown (hts _ (List.mem_cons_of_mem _ k_X6_207)) dX6_bornBy_16 ?_
    obtain ⟨z_18, od_18, om_18, ow_18, ca_18, bo_18, la_18, hc, h⟩ := bw_b7_e h
    refine bw_callV S hK hZ hI (mX6_charge l G cy g a z rows asd_11 sm buf bm th od om ow ca bo la pl to rd hh p1 1000000 z_18 od_18 om_18 ow_18 ca_18 bo_18 la_18 hc) Y_X6_charge V_X6_charge l_X6_105 ⟨(Nat.le_of_ble_eq_true rfl), (Nat.le_of_ble_eq_true rfl)⟩ (q0 := 0) rfl rfl rfl (ws' := (bw_mW cy a z_18 rows asd_11 sm buf bm th od_18 om_18 ow_18 ca_18 bo_18 la_18 pl to rd hh)) (bw_pS _) (bw_pS' _) rfl rfl hl.1 (rest := []) (st1 := []) rfl rfl (Nat.le_of_ble_eq_true rfl) dX6_bornBy_18 ⟨Nat.le_refl _, Nat.le_refl _⟩ (fun H locs hI => ?_)
    refine lv_ldc hx hb hown (hts _ (List.mem_cons_of_mem _ k_X6_207)) dX6_bornBy_21 ?_
    refine lv_aload_n hx hb dX6_bornBy_23 rfl (lv_at hl 0 rfl) ?_
    refine bw_get S hK hI 0 12 rfl rfl (by decide) i_X6 f_X6_93 rfl dX6_bornBy_24 ?_
    refine lv_isub hx hb dX6_bornBy_27 ?_
    refine lv_topi (fun x2_28 e_28 => ?_)
    have h := bw_let_e h e_28
    clear e_28
    refine lv_istore_n (lv' := [(2, .int x2_28), (0, .ref (a 0)), (1, .int p1)]) hx hb dX6_bornBy_28 rfl hl (by decide) rfl (fun ls hl => ?_)
    refine lv_aload_n hx hb dX6_bornBy_29 rfl (lv_at hl 1 rfl) ?_
    obtain ⟨z_30, hc, h⟩ := bw_b1_e h
    refine bw_callV S hK hZ hI (mX6_putBack l G cy g a z_18 rows asd_11 sm buf bm th od_18 om_18 ow_18 ca_18 bo_18 la_18 pl to rd hh z_30 hc) Y_X6_putBack V_X6_putBack l_X6_201 ⟨(Nat.le_of_ble_eq_true rfl), (Nat.le_of_ble_eq_true rfl)⟩ (q0 := 0) rfl rfl rfl (ws' := (bw_mW cy a z_30 rows asd_11 sm buf bm th od_18 om_18 ow_18 ca_18 bo_18 la_18 pl to rd hh)) (bw_pS _) (bw_pS' _) rfl rfl hl.1 (rest := []) (st1 := []) rfl rfl (Nat.le_of_ble_eq_true rfl) dX6_bornBy_30 ⟨Nat.le_refl _, Nat.le_refl _⟩ (fun H locs hI => ?_)
    refine lv_iload_n hx hb dX6_bornBy_33 rfl (lv_at hl 0 rfl) ?_
    subst hQ
    exact bw_iret (rr := (r, z', asd', od', om', ow', ca', bo', la')) S hr hlocks h (fun q : (bw_A1 × bw_A1 × bw_A1 × Int32 × Int32 × Int32 × Int32 × Int32) => (bw_mW cy a q.1 rows q.2.1 sm buf bm th q.2.2.1 q.2.2.2.1 q.2.2.2.2.1 q.2.2.2.2.2.1 q.2.2.2.2.2.2.1 q.2.2.2.2.2.2.2 pl to rd hh)) hI rfl dX6_bornBy_34
  rw [if_pos c_5] at h
  refine lv_iconst (v := (-1)) hx hb dX6_bornBy_8 rfl ?_
  subst hQ
  exact bw_iret (rr := (r, z', asd', od', om', ow', ca', bo', la')) S hr hlocks h (fun q : (bw_A1 × bw_A1 × bw_A1 × Int32 × Int32 × Int32 × Int32 × Int32) => (bw_mW cy a q.1 rows q.2.1 sm buf bm th q.2.2.1 q.2.2.2.1 q.2.2.2.2.1 q.2.2.2.2.2.1 q.2.2.2.2.2.2.1 q.2.2.2.2.2.2.2 pl to rd hh)) hI rfl dX6_bornBy_9
set_option maxHeartbeats 4000000 in
set_option maxRecDepth 100000 in
theorem mX6_bears (l : Launch) (G : va_G) (cy : Nat → ClassId) (g : Nat) (a : Nat → Nat) (z : bw_A1) (rows : bw_A1) (asd : bw_A1) (sm : Int32) (buf : bw_A1) (bm : Int32) (th : Int32) (od : bw_A1) (om : Int32) (ow : Int32) (ca : Int32) (bo : Int32) (la : Int32) (pl : Int32) (to : Int32) (rd : bw_A1) (hh : Int64) (p1 : Int32) (r : Int32) (z' : bw_A1) (asd' : bw_A1) (th' : Int32) (od' : bw_A1) (om' : Int32) (ow' : Int32) (ca' : Int32) (bo' : Int32) (la' : Int32) (h : fX6_bears z asd th od om ow ca bo la p1 = some (r, z', asd', th', od', om', ow', ca', bo', la')) : bw_M l yX6_bears cX6_bears 2 (some .int) 8 181 G cy g [.ref (a 0), .int p1] (bw_mW cy a z rows asd sm buf bm th od om ow ca bo la pl to rd hh) (some (.int r)) (bw_mW cy a z' rows asd' sm buf bm th' od' om' ow' ca' bo' la' pl to rd hh) := by
  refine bw_ofW (by decide +kernel) RX6 rfl (Nat.le_of_ble_eq_true rfl) ?_
  intro p e s m below meth c ls S hr hlocks hK hZ hI hl
  have hx := S.1
  have hb := S.2.1
  have hown := S.2.2.2.1
  have hts := S.2.2.2.2
  generalize va_A _ s.heap.size = A at hI hZ ⊢
  generalize hQ : MQ below _ _ s 0 0 A = Q
  have hl : lv_has ls 2 [(0, .ref (a 0)), (1, .int p1)] := hl
  unfold fX6_bears at h
  refine lv_aload_n hx hb dX6_bears_0 rfl (lv_at hl 0 rfl) ?_
  refine lv_iconst (v := 0) hx hb dX6_bears_1 rfl ?_
  refine bw_put S hK hI 0 6 (ws' := (bw_mW cy a z rows asd sm buf bm 0 od om ow ca bo la pl to rd hh)) tyX6 tyX6_ok nmX6 rfl rfl (by decide) i_X6 f_X6_28 rfl rfl rfl rfl (Nat.le_of_ble_eq_true rfl) rfl dX6_bears_2 (fun H locs hI => ?_)
  refine lv_aload_n hx hb dX6_bears_5 rfl (lv_at hl 0 rfl) ?_
  refine lv_iload_n hx hb dX6_bears_6 rfl (lv_at hl 1 rfl) ?_
  obtain ⟨r7, hc, h⟩ := bw_b1_e h
  refine bw_callV S hK hZ hI (mX6_isProject l G cy g a z rows asd sm buf bm 0 od om ow ca bo la pl to rd hh p1 r7 hc) Y_X6_isProject V_X6_isProject l_X6_123 ⟨(Nat.le_of_ble_eq_true rfl), (Nat.le_of_ble_eq_true rfl)⟩ (q0 := 0) rfl rfl rfl (ws' := (bw_mW cy a z rows asd sm buf bm 0 od om ow ca bo la pl to rd hh)) (bw_pS _) (bw_pS' _) rfl rfl hl.1 (rest := []) (st1 := [.int r7]) rfl rfl (Nat.le_of_ble_eq_true rfl) dX6_bears_7 ⟨Nat.le_refl _, Nat.le_refl _⟩ (fun H locs hI => ?_)
  refine lv_if_eq (tgt := 21) hx hb dX6_bears_10 (by decide) (fun c_10 => ?_) (fun c_10 => ?_)
  · rw [if_pos c_10] at h
    refine lv_aload_n hx hb dX6_bears_21 rfl (lv_at hl 0 rfl) ?_
    refine lv_iconst (v := 1) hx hb dX6_bears_22 rfl ?_
    obtain ⟨r23, th_23, hc, h⟩ := bw_b2_e h
    refine bw_callV S hK hZ hI (mX6_fails l G cy g a z rows asd sm buf bm 0 od om ow ca bo la pl to rd hh 1 r23 th_23 hc) Y_X6_fails V_X6_fails l_X6_114 ⟨(Nat.le_of_ble_eq_true rfl), (Nat.le_of_ble_eq_true rfl)⟩ (q0 := 0) rfl rfl rfl (ws' := (bw_mW cy a z rows asd sm buf bm th_23 od om ow ca bo la pl to rd hh)) (bw_pS _) (bw_pS' _) rfl rfl hl.1 (rest := []) (st1 := [.int r23]) rfl rfl (Nat.le_of_ble_eq_true rfl) dX6_bears_23 ⟨Nat.le_refl _, Nat.le_refl _⟩ (fun H locs hI => ?_)
    subst hQ
    exact bw_iret (rr := (r, z', asd', th', od', om', ow', ca', bo', la')) S hr hlocks h (fun q : (bw_A1 × bw_A1 × Int32 × bw_A1 × Int32 × Int32 × Int32 × Int32 × Int32) => (bw_mW cy a q.1 rows q.2.1 sm buf bm q.2.2.1 q.2.2.2.1 q.2.2.2.2.1 q.2.2.2.2.2.1 q.2.2.2.2.2.2.1 q.2.2.2.2.2.2.2.1 q.2.2.2.2.2.2.2.2 pl to rd hh)) hI rfl dX6_bears_26
  rw [if_neg c_10] at h
  refine lv_aload_n hx hb dX6_bears_13 rfl (lv_at hl 0 rfl) ?_
  refine lv_iload_n hx hb dX6_bears_14 rfl (lv_at hl 1 rfl) ?_
  obtain ⟨r15, z_15, asd_15, od_15, om_15, ow_15, ca_15, bo_15, la_15, hc, h⟩ := bw_b9_e h
  refine bw_callV S hK hZ hI (mX6_bornBy l G cy g a z rows asd sm buf bm 0 od om ow ca bo la pl to rd hh p1 r15 z_15 asd_15 od_15 om_15 ow_15 ca_15 bo_15 la_15 hc) Y_X6_bornBy V_X6_bornBy l_X6_208 ⟨(Nat.le_of_ble_eq_true rfl), (Nat.le_of_ble_eq_true rfl)⟩ (q0 := 0) rfl rfl rfl (ws' := (bw_mW cy a z_15 rows asd_15 sm buf bm 0 od_15 om_15 ow_15 ca_15 bo_15 la_15 pl to rd hh)) (bw_pS _) (bw_pS' _) rfl rfl hl.1 (rest := []) (st1 := [.int r15]) rfl rfl (Nat.le_of_ble_eq_true rfl) dX6_bears_15 ⟨Nat.le_refl _, Nat.le_refl _⟩ (fun H locs hI => ?_)
  refine lv_goto (tgt := 26) hx hb dX6_bears_18 (by decide) ?_
  subst hQ
  exact bw_iret (rr := (r, z', asd', th', od', om', ow', ca', bo', la')) S hr hlocks h (fun q : (bw_A1 × bw_A1 × Int32 × bw_A1 × Int32 × Int32 × Int32 × Int32 × Int32) => (bw_mW cy a q.1 rows q.2.1 sm buf bm q.2.2.1 q.2.2.2.1 q.2.2.2.2.1 q.2.2.2.2.2.1 q.2.2.2.2.2.2.1 q.2.2.2.2.2.2.2.1 q.2.2.2.2.2.2.2.2 pl to rd hh)) hI rfl dX6_bears_26
set_option maxHeartbeats 4000000 in
set_option maxRecDepth 100000 in
theorem mX6_weakestOf (l : Launch) (G : va_G) (cy : Nat → ClassId) (g : Nat) (a : Nat → Nat) (z : bw_A1) (rows : bw_A1) (asd : bw_A1) (sm : Int32) (buf : bw_A1) (bm : Int32) (th : Int32) (od : bw_A1) (om : Int32) (ow : Int32) (ca : Int32) (bo : Int32) (la : Int32) (pl : Int32) (to : Int32) (rd : bw_A1) (hh : Int64) (r : Int32) (z' : bw_A1) (asd' : bw_A1) (od' : bw_A1) (om' : Int32) (ow' : Int32) (ca' : Int32) (bo' : Int32) (la' : Int32) (h : fX6_weakestOf z asd od om ow ca bo la = some (r, z', asd', od', om', ow', ca', bo', la')) : bw_M l yX6_weakestOf cX6_weakestOf 6 (some .int) 8 181 G cy g [.ref (a 0)] (bw_mW cy a z rows asd sm buf bm th od om ow ca bo la pl to rd hh) (some (.int r)) (bw_mW cy a z' rows asd' sm buf bm th od' om' ow' ca' bo' la' pl to rd hh) := by
  refine bw_ofW (by decide +kernel) RX6 rfl (Nat.le_of_ble_eq_true rfl) ?_
  intro p e s m below meth c ls S hr hlocks hK hZ hI hl
  have hx := S.1
  have hb := S.2.1
  have hown := S.2.2.2.1
  have hts := S.2.2.2.2
  generalize va_A _ s.heap.size = A at hI hZ ⊢
  generalize hQ : MQ below _ _ s 0 0 A = Q
  have hl : lv_has ls 6 [(0, .ref (a 0))] := hl
  have j69 : ∀ (z : bw_A1) (asd : bw_A1) (od : bw_A1) (om : Int32) (ow : Int32) (ca : Int32) (bo : Int32) (la : Int32) (x1 : Int32) (x3 : Int32) (s0 : Int32) (k6 : bw_A1 → bw_A1 → bw_A1 → Int32 → Int32 → Int32 → Int32 → Int32 → Int32 → Int32 → Int32 → Option (Int32 × bw_A1 × bw_A1 × bw_A1 × Int32 × Int32 × Int32 × Int32 × Int32)) (hk6 : ∀ (H : Heap) (locs : List Loc) (ls : Array Slot) (z_ : bw_A1) (asd_ : bw_A1) (od_ : bw_A1) (om_ : Int32) (ow_ : Int32) (ca_ : Int32) (bo_ : Int32) (la_ : Int32) (x1_ : Int32) (x2_ : Int32) (x3_ : Int32), k6 z_ asd_ od_ om_ ow_ ca_ bo_ la_ x1_ x2_ x3_ = some (r, z', asd', od', om', ow', ca', bo', la') → bw_I G A s.heap (bw_mW cy a z_ rows asd_ sm buf bm th od_ om_ ow_ ca_ bo_ la_ pl to rd hh) H locs → lv_has ls 6 [(0, .ref (a 0)), (1, .int x1_), (2, .int x2_), (3, .int x3_)] → W p l e (bw_rm 8 181) s m [.ref (a 0)].toArray below meth c H locs 0 0 Q (F0 m 6 ls [])) (H : Heap) (locs : List Loc) (ls : Array Slot), jX6_weakestOf_69 k6 z asd od om ow ca bo la x1 x3 s0 = some (r, z', asd', od', om', ow', ca', bo', la') → bw_I G A s.heap (bw_mW cy a z rows asd sm buf bm th od om ow ca bo la pl to rd hh) H locs → lv_has ls 6 [(0, .ref (a 0)), (1, .int x1), (3, .int x3)] → W p l e (bw_rm 8 181) s m [.ref (a 0)].toArray below meth c H locs 0 0 Q (F0 m 69 ls [.int s0]) := by
    intro z asd od om ow ca bo la x1 x3 s0 k6 hk6 H locs ls h hI hl
    unfold jX6_weakestOf_69 at h
    refine lv_istore_n (lv' := [(2, .int s0), (0, .ref (a 0)), (1, .int x1), (3, .int x3)]) hx hb dX6_weakestOf_69 rfl hl (by decide) rfl (fun ls hl => ?_)
    obtain ⟨x3_70, e_70⟩ : ∃ y : Int32, y = x3 + 1 := ⟨_, rfl⟩
    have h := bw_let_e h e_70
    refine lv_iinc (v := x3_70) (lv' := [(3, .int x3_70), (2, .int s0), (0, .ref (a 0)), (1, .int x1)]) hx hb dX6_weakestOf_70 hl (k := 3) rfl (by rw [e_70]; rfl) (by decide) rfl (fun ls hl => ?_)
    clear e_70
    refine lv_goto (tgt := 6) hx hb dX6_weakestOf_73 (by decide) ?_
    exact hk6 _ _ _ z asd od om ow ca bo la x1 s0 x3_70 h hI (lv_sub hl [2,3,1,0] rfl)
  have j57 : ∀ (z : bw_A1) (asd : bw_A1) (od : bw_A1) (om : Int32) (ow : Int32) (ca : Int32) (bo : Int32) (la : Int32) (x2 : Int32) (x3 : Int32) (x4 : Int32) (x5 : Int32) (s0 : Int32) (k6 : bw_A1 → bw_A1 → bw_A1 → Int32 → Int32 → Int32 → Int32 → Int32 → Int32 → Int32 → Int32 → Option (Int32 × bw_A1 × bw_A1 × bw_A1 × Int32 × Int32 × Int32 × Int32 × Int32)) (hk6 : ∀ (H : Heap) (locs : List Loc) (ls : Array Slot) (z_ : bw_A1) (asd_ : bw_A1) (od_ : bw_A1) (om_ : Int32) (ow_ : Int32) (ca_ : Int32) (bo_ : Int32) (la_ : Int32) (x1_ : Int32) (x2_ : Int32) (x3_ : Int32), k6 z_ asd_ od_ om_ ow_ ca_ bo_ la_ x1_ x2_ x3_ = some (r, z', asd', od', om', ow', ca', bo', la') → bw_I G A s.heap (bw_mW cy a z_ rows asd_ sm buf bm th od_ om_ ow_ ca_ bo_ la_ pl to rd hh) H locs → lv_has ls 6 [(0, .ref (a 0)), (1, .int x1_), (2, .int x2_), (3, .int x3_)] → W p l e (bw_rm 8 181) s m [.ref (a 0)].toArray below meth c H locs 0 0 Q (F0 m 6 ls [])) (H : Heap) (locs : List Loc) (ls : Array Slot), jX6_weakestOf_57 k6 z asd od om ow ca bo la x2 x3 x4 x5 s0 = some (r, z', asd', od', om', ow', ca', bo', la') → bw_I G A s.heap (bw_mW cy a z rows asd sm buf bm th od om ow ca bo la pl to rd hh) H locs → lv_has ls 6 [(0, .ref (a 0)), (2, .int x2), (3, .int x3), (4, .int x4), (5, .int x5)] → W p l e (bw_rm 8 181) s m [.ref (a 0)].toArray below meth c H locs 0 0 Q (F0 m 57 ls [.int s0]) := by
    intro z asd od om ow ca bo la x2 x3 x4 x5 s0 k6 hk6 H locs ls h hI hl
    unfold jX6_weakestOf_57 at h
    refine lv_istore_n (lv' := [(1, .int s0), (0, .ref (a 0)), (2, .int x2), (3, .int x3), (4, .int x4), (5, .int x5)]) hx hb dX6_weakestOf_57 rfl hl (by decide) rfl (fun ls hl => ?_)
    refine lv_iload hx hb dX6_weakestOf_58 (lv_at hl 5 rfl) ?_
    refine lv_if_eq (tgt := 68) hx hb dX6_weakestOf_60 (by decide) (fun c_60 => ?_) (fun c_60 => ?_)
    · rw [if_pos c_60] at h
      refine lv_iload_n hx hb dX6_weakestOf_68 rfl (lv_at hl 2 rfl) ?_
      exact j69 z asd od om ow ca bo la s0 x3 x2 k6 hk6 _ _ _ h hI (lv_sub hl [1,0,3] rfl)
    rw [if_neg c_60] at h
    refine lv_iload hx hb dX6_weakestOf_63 (lv_at hl 4 rfl) ?_
    refine lv_goto (tgt := 69) hx hb dX6_weakestOf_65 (by decide) ?_
    exact j69 z asd od om ow ca bo la s0 x3 x4 k6 hk6 _ _ _ h hI (lv_sub hl [1,0,3] rfl)
  have j45 : ∀ (z : bw_A1) (asd : bw_A1) (od : bw_A1) (om : Int32) (ow : Int32) (ca : Int32) (bo : Int32) (la : Int32) (x1 : Int32) (x2 : Int32) (x3 : Int32) (x4 : Int32) (s0 : Int32) (k6 : bw_A1 → bw_A1 → bw_A1 → Int32 → Int32 → Int32 → Int32 → Int32 → Int32 → Int32 → Int32 → Option (Int32 × bw_A1 × bw_A1 × bw_A1 × Int32 × Int32 × Int32 × Int32 × Int32)) (hk6 : ∀ (H : Heap) (locs : List Loc) (ls : Array Slot) (z_ : bw_A1) (asd_ : bw_A1) (od_ : bw_A1) (om_ : Int32) (ow_ : Int32) (ca_ : Int32) (bo_ : Int32) (la_ : Int32) (x1_ : Int32) (x2_ : Int32) (x3_ : Int32), k6 z_ asd_ od_ om_ ow_ ca_ bo_ la_ x1_ x2_ x3_ = some (r, z', asd', od', om', ow', ca', bo', la') → bw_I G A s.heap (bw_mW cy a z_ rows asd_ sm buf bm th od_ om_ ow_ ca_ bo_ la_ pl to rd hh) H locs → lv_has ls 6 [(0, .ref (a 0)), (1, .int x1_), (2, .int x2_), (3, .int x3_)] → W p l e (bw_rm 8 181) s m [.ref (a 0)].toArray below meth c H locs 0 0 Q (F0 m 6 ls [])) (H : Heap) (locs : List Loc) (ls : Array Slot), jX6_weakestOf_45 k6 z asd od om ow ca bo la x1 x2 x3 x4 s0 = some (r, z', asd', od', om', ow', ca', bo', la') → bw_I G A s.heap (bw_mW cy a z rows asd sm buf bm th od om ow ca bo la pl to rd hh) H locs → lv_has ls 6 [(0, .ref (a 0)), (1, .int x1), (2, .int x2), (3, .int x3), (4, .int x4)] → W p l e (bw_rm 8 181) s m [.ref (a 0)].toArray below meth c H locs 0 0 Q (F0 m 45 ls [.int s0]) := by
    intro z asd od om ow ca bo la x1 x2 x3 x4 s0 k6 hk6 H locs ls h hI hl
    unfold jX6_weakestOf_45 at h
    refine lv_istore (lv' := [(5, .int s0), (0, .ref (a 0)), (1, .int x1), (2, .int x2), (3, .int x3), (4, .int x4)]) hx hb dX6_weakestOf_45 hl (by decide) rfl (fun ls hl => ?_)
    refine lv_iload hx hb dX6_weakestOf_47 (lv_at hl 0 rfl) ?_
    refine lv_if_eq (tgt := 56) hx hb dX6_weakestOf_49 (by decide) (fun c_49 => ?_) (fun c_49 => ?_)
    · rw [if_pos c_49] at h
      refine lv_iload_n hx hb dX6_weakestOf_56 rfl (lv_at hl 2 rfl) ?_
      exact j57 z asd od om ow ca bo la x2 x3 x4 s0 x1 k6 hk6 _ _ _ h hI (lv_sub hl [1,3,4,5,0] rfl)
    rw [if_neg c_49] at h
    refine lv_iload_n hx hb dX6_weakestOf_52 rfl (lv_at hl 4 rfl) ?_
    refine lv_goto (tgt := 57) hx hb dX6_weakestOf_53 (by decide) ?_
    exact j57 z asd od om ow ca bo la x2 x3 x4 s0 x3 k6 hk6 _ _ _ h hI (lv_sub hl [1,3,4,5,0] rfl)
  have j44 : ∀ (z : bw_A1) (asd : bw_A1) (od : bw_A1) (om : Int32) (ow : Int32) (ca : Int32) (bo : Int32) (la : Int32) (x1 : Int32) (x2 : Int32) (x3 : Int32) (x4 : Int32) (k6 : bw_A1 → bw_A1 → bw_A1 → Int32 → Int32 → Int32 → Int32 → Int32 → Int32 → Int32 → Int32 → Option (Int32 × bw_A1 × bw_A1 × bw_A1 × Int32 × Int32 × Int32 × Int32 × Int32)) (hk6 : ∀ (H : Heap) (locs : List Loc) (ls : Array Slot) (z_ : bw_A1) (asd_ : bw_A1) (od_ : bw_A1) (om_ : Int32) (ow_ : Int32) (ca_ : Int32) (bo_ : Int32) (la_ : Int32) (x1_ : Int32) (x2_ : Int32) (x3_ : Int32), k6 z_ asd_ od_ om_ ow_ ca_ bo_ la_ x1_ x2_ x3_ = some (r, z', asd', od', om', ow', ca', bo', la') → bw_I G A s.heap (bw_mW cy a z_ rows asd_ sm buf bm th od_ om_ ow_ ca_ bo_ la_ pl to rd hh) H locs → lv_has ls 6 [(0, .ref (a 0)), (1, .int x1_), (2, .int x2_), (3, .int x3_)] → W p l e (bw_rm 8 181) s m [.ref (a 0)].toArray below meth c H locs 0 0 Q (F0 m 6 ls [])) (H : Heap) (locs : List Loc) (ls : Array Slot), jX6_weakestOf_44 k6 z asd od om ow ca bo la x1 x2 x3 x4 = some (r, z', asd', od', om', ow', ca', bo', la') → bw_I G A s.heap (bw_mW cy a z rows asd sm buf bm th od om ow ca bo la pl to rd hh) H locs → lv_has ls 6 [(0, .ref (a 0)), (1, .int x1), (2, .int x2), (3, .int x3), (4, .int x4)] → W p l e (bw_rm 8 181) s m [.ref (a 0)].toArray below meth c H locs 0 0 Q (F0 m 44 ls []) := by
    intro z asd od om ow ca bo la x1 x2 x3 x4 k6 hk6 H locs ls h hI hl
    unfold jX6_weakestOf_44 at h
    refine lv_iconst (v := 0) hx hb dX6_weakestOf_44 rfl ?_
    exact j45 z asd od om ow ca bo la x1 x2 x3 x4 0 k6 hk6 _ _ _ h hI (lv_sub hl [0,1,2,3,4] rfl)
  have j40 : ∀ (z : bw_A1) (asd : bw_A1) (od : bw_A1) (om : Int32) (ow : Int32) (ca : Int32) (bo : Int32) (la : Int32) (x1 : Int32) (x2 : Int32) (x3 : Int32) (x4 : Int32) (k6 : bw_A1 → bw_A1 → bw_A1 → Int32 → Int32 → Int32 → Int32 → Int32 → Int32 → Int32 → Int32 → Option (Int32 × bw_A1 × bw_A1 × bw_A1 × Int32 × Int32 × Int32 × Int32 × Int32)) (hk6 : ∀ (H : Heap) (locs : List Loc) (ls : Array Slot) (z_ : bw_A1) (asd_ : bw_A1) (od_ : bw_A1) (om_ : Int32) (ow_ : Int32) (ca_ : Int32) (bo_ : Int32) (la_ : Int32) (x1_ : Int32) (x2_ : Int32) (x3_ : Int32), k6 z_ asd_ od_ om_ ow_ ca_ bo_ la_ x1_ x2_ x3_ = some (r, z', asd', od', om', ow', ca', bo', la') → bw_I G A s.heap (bw_mW cy a z_ rows asd_ sm buf bm th od_ om_ ow_ ca_ bo_ la_ pl to rd hh) H locs → lv_has ls 6 [(0, .ref (a 0)), (1, .int x1_), (2, .int x2_), (3, .int x3_)] → W p l e (bw_rm 8 181) s m [.ref (a 0)].toArray below meth c H locs 0 0 Q (F0 m 6 ls [])) (H : Heap) (locs : List Loc) (ls : Array Slot), jX6_weakestOf_40 k6 z asd od om ow ca bo la x1 x2 x3 x4 = some (r, z', asd', od', om', ow', ca', bo', la') → bw_I G A s.heap (bw_mW cy a z rows asd sm buf bm th od om ow ca bo la pl to rd hh) H locs → lv_has ls 6 [(0, .ref (a 0)), (1, .int x1), (2, .int x2), (3, .int x3), (4, .int x4)] → W p l e (bw_rm 8 181) s m [.ref (a 0)].toArray below meth c H locs 0 0 Q (F0 m 40 ls []) := by
    intro z asd od om ow ca bo la x1 x2 x3 x4 k6 hk6 H locs ls h hI hl
    unfold jX6_weakestOf_40 at h
    refine lv_iconst (v := 1) hx hb dX6_weakestOf_40 rfl ?_
    refine lv_goto (tgt := 45) hx hb dX6_weakestOf_41 (by decide) ?_
    exact j45 z asd od om ow ca bo la x1 x2 x3 x4 1 k6 hk6 _ _ _ h hI (lv_sub hl [0,1,2,3,4] rfl)
  have l6 : ∀  (n : Nat) (H : Heap) (locs : List Loc) (ls : Array Slot) (z : bw_A1) (asd : bw_A1) (od : bw_A1) (om : Int32) (ow : Int32) (ca : Int32) (bo : Int32) (la : Int32) (x1 : Int32) (x2 : Int32) (x3 : Int32), lX6_weakestOf_6  n z asd od om ow ca bo la x1 x2 x3 = some (r, z', asd', od', om', ow', ca', bo', la') → bw_I G A s.heap (bw_mW cy a z rows asd sm buf bm th od om ow ca bo la pl to rd hh) H locs → lv_has ls 6 [(0, .ref (a 0)), (1, .int x1), (2, .int x2), (3, .int x3)] → W p l e (bw_rm 8 181) s m [.ref (a 0)].toArray below meth c H locs 0 0 Q (F0 m 6 ls []) := by
    intro  n
    induction n with
    | zero => intro H locs ls z asd od om ow ca bo la x1 x2 x3 h; exact bw_none h
    | succ n ih =>
      intro H locs ls z asd od om ow ca bo la x1 x2 x3 h hI hl
      have h : bX6_weakestOf_6  (lX6_weakestOf_6  n)  z asd od om ow ca bo la x1 x2 x3 = some (r, z', asd', od', om', ow', ca', bo', la') := h
      unfold bX6_weakestOf_6 at h
      refine lv_iload_n hx hb dX6_weakestOf_6 rfl (lv_at hl 3 rfl) ?_
      refine lv_aload_n hx hb dX6_weakestOf_7 rfl (lv_at hl 0 rfl) ?_
      refine bw_get S hK hI 0 0 rfl rfl (by decide) i_X6 f_X6_7 rfl dX6_weakestOf_8 ?_
      refine lv_iconst (v := 0) hx hb dX6_weakestOf_11 rfl ?_
      obtain ⟨v12, hv, h⟩ := bw_b1_e h
      refine bw_iald hx hb hK hI 1 hv rfl dX6_weakestOf_12 ?_
      refine lv_icmp_ge (tgt := 76) hx hb dX6_weakestOf_13 (by decide) (fun c_13 => ?_) (fun c_13 => ?_)
      · rw [if_pos c_13] at h
        refine lv_iload_n hx hb dX6_weakestOf_76 rfl (lv_at hl 1 rfl) ?_
        subst hQ
        exact bw_iret (rr := (r, z', asd', od', om', ow', ca', bo', la')) S hr hlocks h (fun q : (bw_A1 × bw_A1 × bw_A1 × Int32 × Int32 × Int32 × Int32 × Int32) => (bw_mW cy a q.1 rows q.2.1 sm buf bm th q.2.2.1 q.2.2.2.1 q.2.2.2.2.1 q.2.2.2.2.2.1 q.2.2.2.2.2.2.1 q.2.2.2.2.2.2.2 pl to rd hh)) hI rfl dX6_weakestOf_77
      rw [if_neg c_13] at h
      refine lv_aload_n hx hb dX6_weakestOf_16 rfl (lv_at hl 0 rfl) ?_
      refine lv_iload_n hx hb dX6_weakestOf_17 rfl (lv_at hl 3 rfl) ?_
      obtain ⟨r18, z_18, asd_18, od_18, om_18, ow_18, ca_18, bo_18, la_18, hc, h⟩ := bw_b9_e h
      refine bw_callV S hK hZ hI (mX6_bornBy l G cy g a z rows asd sm buf bm th od om ow ca bo la pl to rd hh x3 r18 z_18 asd_18 od_18 om_18 ow_18 ca_18 bo_18 la_18 hc) Y_X6_bornBy V_X6_bornBy l_X6_208 ⟨(Nat.le_of_ble_eq_true rfl), (Nat.le_of_ble_eq_true rfl)⟩ (q0 := 0) rfl rfl rfl (ws' := (bw_mW cy a z_18 rows asd_18 sm buf bm th od_18 om_18 ow_18 ca_18 bo_18 la_18 pl to rd hh)) (bw_pS _) (bw_pS' _) rfl rfl hl.1 (rest := []) (st1 := [.int r18]) rfl rfl (Nat.le_of_ble_eq_true rfl) dX6_weakestOf_18 ⟨Nat.le_refl _, Nat.le_refl _⟩ (fun H locs hI => ?_)
      refine lv_istore (lv' := [(4, .int r18), (0, .ref (a 0)), (1, .int x1), (2, .int x2), (3, .int x3)]) hx hb dX6_weakestOf_21 hl (by decide) rfl (fun ls hl => ?_)
      refine lv_iload hx hb dX6_weakestOf_23 (lv_at hl 0 rfl) ?_
      refine lv_iconst (v := (-1)) hx hb dX6_weakestOf_25 rfl ?_
      refine lv_icmp_eq (tgt := 44) hx hb dX6_weakestOf_26 (by decide) (fun c_26 => ?_) (fun c_26 => ?_)
      · rw [if_pos c_26] at h
        exact j44 z_18 asd_18 od_18 om_18 ow_18 ca_18 bo_18 la_18 x1 x2 x3 r18 (lX6_weakestOf_6  n) ih _ _ _ h hI (lv_sub hl [1,2,3,4,0] rfl)
      rw [if_neg c_26] at h
      refine lv_iload_n hx hb dX6_weakestOf_29 rfl (lv_at hl 2 rfl) ?_
      refine lv_iconst (v := (-1)) hx hb dX6_weakestOf_30 rfl ?_
      refine lv_icmp_eq (tgt := 40) hx hb dX6_weakestOf_31 (by decide) (fun c_31 => ?_) (fun c_31 => ?_)
      · rw [if_pos c_31] at h
        exact j40 z_18 asd_18 od_18 om_18 ow_18 ca_18 bo_18 la_18 x1 x2 x3 r18 (lX6_weakestOf_6  n) ih _ _ _ h hI (lv_sub hl [1,2,3,4,0] rfl)
      rw [if_neg c_31] at h
      refine lv_iload hx hb dX6_weakestOf_34 (lv_at hl 0 rfl) ?_
      refine lv_iload_n hx hb dX6_weakestOf_36 rfl (lv_at hl 3 rfl) ?_
      refine lv_icmp_ge (tgt := 44) hx hb dX6_weakestOf_37 (by decide) (fun c_37 => ?_) (fun c_37 => ?_)
      · rw [if_pos c_37] at h
        exact j44 z_18 asd_18 od_18 om_18 ow_18 ca_18 bo_18 la_18 x1 x2 x3 r18 (lX6_weakestOf_6  n) ih _ _ _ h hI (lv_sub hl [1,2,3,4,0] rfl)
      rw [if_neg c_37] at h
      exact j40 z_18 asd_18 od_18 om_18 ow_18 ca_18 bo_18 la_18 x1 x2 x3 r18 (lX6_weakestOf_6  n) ih _ _ _ h hI (lv_sub hl [1,2,3,4,0] rfl)
  unfold fX6_weakestOf at h
  refine lv_iconst (v := (-1)) hx hb dX6_weakestOf_0 rfl ?_
  refine lv_istore_n (lv' := [(1, .int (-1)), (0, .ref (a 0))]) hx hb dX6_weakestOf_1 rfl hl (by decide) rfl (fun ls hl => ?_)
  refine lv_iconst (v := 0) hx hb dX6_weakestOf_2 rfl ?_
  refine lv_istore_n (lv' := [(2, .int 0), (1, .int (-1)), (0, .ref (a 0))]) hx hb dX6_weakestOf_3 rfl hl (by decide) rfl (fun ls hl => ?_)
  refine lv_iconst (v := 0) hx hb dX6_weakestOf_4 rfl ?_
  refine lv_istore_n (lv' := [(3, .int 0), (2, .int 0), (1, .int (-1)), (0, .ref (a 0))]) hx hb dX6_weakestOf_5 rfl hl (by decide) rfl (fun ls hl => ?_)
  exact l6  bw_fu _ _ _ z asd od om ow ca bo la (-1) 0 0 h hI (lv_sub hl [3,2,1,0] rfl)
set_option maxHeartbeats 4000000 in
set_option maxRecDepth 100000 in
theorem mX6_weakest (l : Launch) (G : va_G) (cy : Nat → ClassId) (g : Nat) (a : Nat → Nat) (z : bw_A1) (rows : bw_A1) (asd : bw_A1) (sm : Int32) (buf : bw_A1) (bm : Int32) (th : Int32) (od : bw_A1) (om : Int32) (ow : Int32) (ca : Int32) (bo : Int32) (la : Int32) (pl : Int32) (to : Int32) (rd : bw_A1) (hh : Int64) (r : Int32) (z' : bw_A1) (asd' : bw_A1) (th' : Int32) (od' : bw_A1) (om' : Int32) (ow' : Int32) (ca' : Int32) (bo' : Int32) (la' : Int32) (h : fX6_weakest z asd th od om ow ca bo la = some (r, z', asd', th', od', om', ow', ca', bo', la')) : bw_M l yX6_weakest cX6_weakest 1 (some .int) 9 206 G cy g [.ref (a 0)] (bw_mW cy a z rows asd sm buf bm th od om ow ca bo la pl to rd hh) (some (.int r)) (bw_mW cy a z' rows asd' sm buf bm th' od' om' ow' ca' bo' la' pl to rd hh) := by
  refine bw_ofW (by decide +kernel) RX6 rfl (Nat.le_of_ble_eq_true rfl) ?_
  intro p e s m below meth c ls S hr hlocks hK hZ hI hl
  have hx := S.1
  have hb := S.2.1
  have hown := S.2.2.2.1
  have hts := S.2.2.2.2
  generalize va_A _ s.heap.size = A at hI hZ ⊢
  generalize hQ : MQ below _ _ s 0 0 A = Q
  have hl : lv_has ls 1 [(0, .ref (a 0))] := hl
  unfold fX6_weakest at h
  refine lv_aload_n hx hb dX6_weakest_0 rfl (lv_at hl 0 rfl) ?_
  refine lv_iconst (v := 0) hx hb dX6_weakest_1 rfl ?_
  refine bw_put S hK hI 0 6 (ws' := (bw_mW cy a z rows asd sm buf bm 0 od om ow ca bo la pl to rd hh)) tyX6 tyX6_ok nmX6 rfl rfl (by decide) i_X6 f_X6_28 rfl rfl rfl rfl (Nat.le_of_ble_eq_true rfl) rfl dX6_weakest_2 (fun H locs hI => ?_)
  refine lv_aload_n hx hb dX6_weakest_5 rfl (lv_at hl 0 rfl) ?_
  obtain ⟨r6, z_6, asd_6, od_6, om_6, ow_6, ca_6, bo_6, la_6, hc, h⟩ := bw_b9_e h
  refine bw_callV S hK hZ hI (mX6_weakestOf l G cy g a z rows asd sm buf bm 0 od om ow ca bo la pl to rd hh r6 z_6 asd_6 od_6 om_6 ow_6 ca_6 bo_6 la_6 hc) Y_X6_weakestOf V_X6_weakestOf l_X6_211 ⟨(Nat.le_of_ble_eq_true rfl), (Nat.le_of_ble_eq_true rfl)⟩ (q0 := 0) rfl rfl rfl (ws' := (bw_mW cy a z_6 rows asd_6 sm buf bm 0 od_6 om_6 ow_6 ca_6 bo_6 la_6 pl to rd hh)) (bw_pS _) (bw_pS' _) rfl rfl hl.1 (rest := []) (st1 := [.int r6]) rfl rfl (Nat.le_of_ble_eq_true rfl) dX6_weakest_6 ⟨Nat.le_refl _, Nat.le_refl _⟩ (fun H locs hI => ?_)
  subst hQ
  exact bw_iret (rr := (r, z', asd', th', od', om', ow', ca', bo', la')) S hr hlocks h (fun q : (bw_A1 × bw_A1 × Int32 × bw_A1 × Int32 × Int32 × Int32 × Int32 × Int32) => (bw_mW cy a q.1 rows q.2.1 sm buf bm q.2.2.1 q.2.2.2.1 q.2.2.2.2.1 q.2.2.2.2.2.1 q.2.2.2.2.2.2.1 q.2.2.2.2.2.2.2.1 q.2.2.2.2.2.2.2.2 pl to rd hh)) hI rfl dX6_weakest_9
set_option maxHeartbeats 4000000 in
set_option maxRecDepth 100000 in
theorem mX6_leastLeft (l : Launch) (G : va_G) (cy : Nat → ClassId) (g : Nat) (a : Nat → Nat) (z : bw_A1) (rows : bw_A1) (asd : bw_A1) (sm : Int32) (buf : bw_A1) (bm : Int32) (th : Int32) (od : bw_A1) (om : Int32) (ow : Int32) (ca : Int32) (bo : Int32) (la : Int32) (pl : Int32) (to : Int32) (rd : bw_A1) (hh : Int64) (r : Int32) (h : fX6_leastLeft z = some r) : bw_M l yX6_leastLeft cX6_leastLeft 3 (some .int) 2 41 G cy g [.ref (a 0)] (bw_mW cy a z rows asd sm buf bm th od om ow ca bo la pl to rd hh) (some (.int r)) (bw_mW cy a z rows asd sm buf bm th od om ow ca bo la pl to rd hh) := by
  refine bw_ofW (by decide +kernel) RX6 rfl (Nat.le_of_ble_eq_true rfl) ?_
  intro p e s m below meth c ls S hr hlocks hK hZ hI hl
  have hx := S.1
  have hb := S.2.1
  have hown := S.2.2.2.1
  have hts := S.2.2.2.2
  generalize va_A _ s.heap.size = A at hI hZ ⊢
  generalize hQ : MQ below _ _ s 0 0 A = Q
  have hl : lv_has ls 3 [(0, .ref (a 0))] := hl
  have j53 : ∀ (x2 : Int32) (s0 : Int32) (k5 : Int32 → Int32 → Option Int32) (hk5 : ∀ (H : Heap) (locs : List Loc) (ls : Array Slot) (x1_ : Int32) (x2_ : Int32), k5 x1_ x2_ = some r → bw_I G A s.heap (bw_mW cy a z rows asd sm buf bm th od om ow ca bo la pl to rd hh) H locs → lv_has ls 3 [(0, .ref (a 0)), (1, .int x1_), (2, .int x2_)] → W p l e (bw_rm 2 41) s m [.ref (a 0)].toArray below meth c H locs 0 0 Q (F0 m 5 ls [])) (H : Heap) (locs : List Loc) (ls : Array Slot), jX6_leastLeft_53 k5 z x2 s0 = some r → bw_I G A s.heap (bw_mW cy a z rows asd sm buf bm th od om ow ca bo la pl to rd hh) H locs → lv_has ls 3 [(0, .ref (a 0)), (2, .int x2)] → W p l e (bw_rm 2 41) s m [.ref (a 0)].toArray below meth c H locs 0 0 Q (F0 m 53 ls [.int s0]) := by
    intro x2 s0 k5 hk5 H locs ls h hI hl
    unfold jX6_leastLeft_53 at h
    refine lv_istore_n (lv' := [(1, .int s0), (0, .ref (a 0)), (2, .int x2)]) hx hb dX6_leastLeft_53 rfl hl (by decide) rfl (fun ls hl => ?_)
    obtain ⟨x2_54, e_54⟩ : ∃ y : Int32, y = x2 + 1 := ⟨_, rfl⟩
    have h := bw_let_e h e_54
    refine lv_iinc (v := x2_54) (lv' := [(2, .int x2_54), (1, .int s0), (0, .ref (a 0))]) hx hb dX6_leastLeft_54 hl (k := 2) rfl (by rw [e_54]; rfl) (by decide) rfl (fun ls hl => ?_)
    clear e_54
    refine lv_goto (tgt := 5) hx hb dX6_leastLeft_57 (by decide) ?_
    exact hk5 _ _ _ s0 x2_54 h hI (lv_sub hl [2,1,0] rfl)
  have j52 : ∀ (x1 : Int32) (x2 : Int32) (k5 : Int32 → Int32 → Option Int32) (hk5 : ∀ (H : Heap) (locs : List Loc) (ls : Array Slot) (x1_ : Int32) (x2_ : Int32), k5 x1_ x2_ = some r → bw_I G A s.heap (bw_mW cy a z rows asd sm buf bm th od om ow ca bo la pl to rd hh) H locs → lv_has ls 3 [(0, .ref (a 0)), (1, .int x1_), (2, .int x2_)] → W p l e (bw_rm 2 41) s m [.ref (a 0)].toArray below meth c H locs 0 0 Q (F0 m 5 ls [])) (H : Heap) (locs : List Loc) (ls : Array Slot), jX6_leastLeft_52 k5 z x1 x2 = some r → bw_I G A s.heap (bw_mW cy a z rows asd sm buf bm th od om ow ca bo la pl to rd hh) H locs → lv_has ls 3 [(0, .ref (a 0)), (1, .int x1), (2, .int x2)] → W p l e (bw_rm 2 41) s m [.ref (a 0)].toArray below meth c H locs 0 0 Q (F0 m 52 ls []) := by
    intro x1 x2 k5 hk5 H locs ls h hI hl
    unfold jX6_leastLeft_52 at h
    refine lv_iload_n hx hb dX6_leastLeft_52 rfl (lv_at hl 1 rfl) ?_
    exact j53 x2 x1 k5 hk5 _ _ _ h hI (lv_sub hl [0,2] rfl)
  have l5 : ∀  (n : Nat) (H : Heap) (locs : List Loc) (ls : Array Slot) (x1 : Int32) (x2 : Int32), lX6_leastLeft_5 z n x1 x2 = some r → bw_I G A s.heap (bw_mW cy a z rows asd sm buf bm th od om ow ca bo la pl to rd hh) H locs → lv_has ls 3 [(0, .ref (a 0)), (1, .int x1), (2, .int x2)] → W p l e (bw_rm 2 41) s m [.ref (a 0)].toArray below meth c H locs 0 0 Q (F0 m 5 ls []) := by
    intro  n
    induction n with
    | zero => intro H locs ls x1 x2 h; exact bw_none h
    | succ n ih =>
      intro H locs ls x1 x2 h hI hl
      have h : bX6_leastLeft_5  (lX6_leastLeft_5 z n) z x1 x2 = some r := h
      unfold bX6_leastLeft_5 at h
      refine lv_iload_n hx hb dX6_leastLeft_5 rfl (lv_at hl 2 rfl) ?_
      refine lv_aload_n hx hb dX6_leastLeft_6 rfl (lv_at hl 0 rfl) ?_
      refine bw_get S hK hI 0 0 rfl rfl (by decide) i_X6 f_X6_7 rfl dX6_leastLeft_7 ?_
      refine lv_iconst (v := 0) hx hb dX6_leastLeft_10 rfl ?_
      obtain ⟨v11, hv, h⟩ := bw_b1_e h
      refine bw_iald hx hb hK hI 1 hv rfl dX6_leastLeft_11 ?_
      refine lv_icmp_ge (tgt := 60) hx hb dX6_leastLeft_12 (by decide) (fun c_12 => ?_) (fun c_12 => ?_)
      · rw [if_pos c_12] at h
        refine lv_iload_n hx hb dX6_leastLeft_60 rfl (lv_at hl 1 rfl) ?_
        subst hQ
        exact bw_iretP S hr hlocks h hI rfl dX6_leastLeft_61
      rw [if_neg c_12] at h
      refine lv_aload_n hx hb dX6_leastLeft_15 rfl (lv_at hl 0 rfl) ?_
      refine lv_iload_n hx hb dX6_leastLeft_16 rfl (lv_at hl 2 rfl) ?_
      obtain ⟨r17, hc, h⟩ := bw_b1_e h
      refine bw_callV S hK hZ hI (mX6_isOpen l G cy g a z rows asd sm buf bm th od om ow ca bo la pl to rd hh x2 r17 hc) Y_X6_isOpen V_X6_isOpen l_X6_43 ⟨(Nat.le_of_ble_eq_true rfl), (Nat.le_of_ble_eq_true rfl)⟩ (q0 := 0) rfl rfl rfl (ws' := (bw_mW cy a z rows asd sm buf bm th od om ow ca bo la pl to rd hh)) (bw_pS _) (bw_pS' _) rfl rfl hl.1 (rest := []) (st1 := [.int r17]) rfl rfl (Nat.le_of_ble_eq_true rfl) dX6_leastLeft_17 ⟨Nat.le_refl _, Nat.le_refl _⟩ (fun H locs hI => ?_)
      refine lv_if_eq (tgt := 52) hx hb dX6_leastLeft_20 (by decide) (fun c_20 => ?_) (fun c_20 => ?_)
      · rw [if_pos c_20] at h
        exact j52 x1 x2 (lX6_leastLeft_5 z n) ih _ _ _ h hI (lv_sub hl [0,1,2] rfl)
      rw [if_neg c_20] at h
      refine lv_aload_n hx hb dX6_leastLeft_23 rfl (lv_at hl 0 rfl) ?_
      refine bw_get S hK hI 0 0 rfl rfl (by decide) i_X6 f_X6_7 rfl dX6_leastLeft_24 ?_
      refine lv_iload_n hx hb dX6_leastLeft_27 rfl (lv_at hl 2 rfl) ?_
      obtain ⟨r28, hc, h⟩ := bw_b1_e h
      refine bw_callP S hK hZ hI (mX6_at l G cy g x2 r28 hc) Y_X6_at V_X6_at l_X6_39 ⟨(Nat.le_of_ble_eq_true rfl), (Nat.le_of_ble_eq_true rfl)⟩ (rest := [.ref (a 1)]) (st1 := [.int r28, .ref (a 1)]) rfl hl.1 rfl rfl (Nat.le_of_ble_eq_true rfl) dX6_leastLeft_28 ⟨Nat.le_refl _, Nat.le_refl _⟩ (fun H locs hI => ?_)
      refine lv_iconst (v := 2) hx hb dX6_leastLeft_31 rfl ?_
      refine lv_iadd hx hb dX6_leastLeft_32 ?_
      obtain ⟨v33, hv, h⟩ := bw_b1_e h
      refine bw_iald hx hb hK hI 1 hv rfl dX6_leastLeft_33 ?_
      refine lv_iload_n hx hb dX6_leastLeft_34 rfl (lv_at hl 1 rfl) ?_
      refine lv_icmp_ge (tgt := 52) hx hb dX6_leastLeft_35 (by decide) (fun c_35 => ?_) (fun c_35 => ?_)
      · rw [if_pos c_35] at h
        exact j52 x1 x2 (lX6_leastLeft_5 z n) ih _ _ _ h hI (lv_sub hl [0,1,2] rfl)
      rw [if_neg c_35] at h
      refine lv_aload_n hx hb dX6_leastLeft_38 rfl (lv_at hl 0 rfl) ?_
      refine bw_get S hK hI 0 0 rfl rfl (by decide) i_X6 f_X6_7 rfl dX6_leastLeft_39 ?_
      refine lv_iload_n hx hb dX6_leastLeft_42 rfl (lv_at hl 2 rfl) ?_
      obtain ⟨r43, hc, h⟩ := bw_b1_e h
      refine bw_callP S hK hZ hI (mX6_at l G cy g x2 r43 hc) Y_X6_at V_X6_at l_X6_39 ⟨(Nat.le_of_ble_eq_true rfl), (Nat.le_of_ble_eq_true rfl)⟩ (rest := [.ref (a 1)]) (st1 := [.int r43, .ref (a 1)]) rfl hl.1 rfl rfl (Nat.le_of_ble_eq_true rfl) dX6_leastLeft_43 ⟨Nat.le_refl _, Nat.le_refl _⟩ (fun H locs hI => ?_)
      refine lv_iconst (v := 2) hx hb dX6_leastLeft_46 rfl ?_
      refine lv_iadd hx hb dX6_leastLeft_47 ?_
      obtain ⟨v48, hv, h⟩ := bw_b1_e h
      refine bw_iald hx hb hK hI 1 hv rfl dX6_leastLeft_48 ?_
      refine lv_goto (tgt := 53) hx hb dX6_leastLeft_49 (by decide) ?_
      exact j53 x2 v48 (lX6_leastLeft_5 z n) ih _ _ _ h hI (lv_sub hl [0,2] rfl)
  unfold fX6_leastLeft at h
  refine lv_ldc hx hb hown (hts _ (List.mem_cons_of_mem _ k_X6_207)) dX6_leastLeft_0 ?_
  refine lv_istore_n (lv' := [(1, .int 1000000), (0, .ref (a 0))]) hx hb dX6_leastLeft_2 rfl hl (by decide) rfl (fun ls hl => ?_)
  refine lv_iconst (v := 0) hx hb dX6_leastLeft_3 rfl ?_
  refine lv_istore_n (lv' := [(2, .int 0), (1, .int 1000000), (0, .ref (a 0))]) hx hb dX6_leastLeft_4 rfl hl (by decide) rfl (fun ls hl => ?_)
  exact l5  bw_fu _ _ _ 1000000 0 h hI (lv_sub hl [2,1,0] rfl)
set_option maxHeartbeats 4000000 in
set_option maxRecDepth 100000 in
theorem mX6_ruleOf (l : Launch) (G : va_G) (cy : Nat → ClassId) (g : Nat) (a : Nat → Nat) (z : bw_A1) (rows : bw_A1) (asd : bw_A1) (sm : Int32) (buf : bw_A1) (bm : Int32) (th : Int32) (od : bw_A1) (om : Int32) (ow : Int32) (ca : Int32) (bo : Int32) (la : Int32) (pl : Int32) (to : Int32) (rd : bw_A1) (hh : Int64) (p1 : Int32) (p2 : Int32) (r : Int32) (z' : bw_A1) (asd' : bw_A1) (od' : bw_A1) (om' : Int32) (ow' : Int32) (ca' : Int32) (bo' : Int32) (la' : Int32) (h : fX6_ruleOf z asd od om ow ca bo la p1 p2 = some (r, z', asd', od', om', ow', ca', bo', la')) : bw_M l yX6_ruleOf cX6_ruleOf 7 (some .int) 8 184 G cy g [.ref (a 0), .int p1, .int p2] (bw_mW cy a z rows asd sm buf bm th od om ow ca bo la pl to rd hh) (some (.int r)) (bw_mW cy a z' rows asd' sm buf bm th od' om' ow' ca' bo' la' pl to rd hh) := by
  refine bw_ofW (by decide +kernel) RX6 rfl (Nat.le_of_ble_eq_true rfl) ?_
  intro p e s m below meth c ls S hr hlocks hK hZ hI hl
  have hx := S.1
  have hb := S.2.1
  have hown := S.2.2.2.1
  have hts := S.2.2.2.2
  generalize va_A _ s.heap.size = A at hI hZ ⊢
  generalize hQ : MQ below _ _ s 0 0 A = Q
  have hl : lv_has ls 7 [(0, .ref (a 0)), (1, .int p1), (2, .int p2)] := hl
  have j80 : ∀ (z : bw_A1) (asd : bw_A1) (od : bw_A1) (om : Int32) (ow : Int32) (ca : Int32) (bo : Int32) (la : Int32) (x1 : Int32) (x2 : Int32) (x3 : Int32) (x5 : Int32) (s0 : Int32) (k18 : bw_A1 → bw_A1 → bw_A1 → Int32 → Int32 → Int32 → Int32 → Int32 → Int32 → Int32 → Int32 → Option (Int32 × bw_A1 × bw_A1 × bw_A1 × Int32 × Int32 × Int32 × Int32 × Int32)) (hk18 : ∀ (H : Heap) (locs : List Loc) (ls : Array Slot) (z_ : bw_A1) (asd_ : bw_A1) (od_ : bw_A1) (om_ : Int32) (ow_ : Int32) (ca_ : Int32) (bo_ : Int32) (la_ : Int32) (x3_ : Int32) (x4_ : Int32) (x5_ : Int32), k18 z_ asd_ od_ om_ ow_ ca_ bo_ la_ x3_ x4_ x5_ = some (r, z', asd', od', om', ow', ca', bo', la') → bw_I G A s.heap (bw_mW cy a z_ rows asd_ sm buf bm th od_ om_ ow_ ca_ bo_ la_ pl to rd hh) H locs → lv_has ls 7 [(0, .ref (a 0)), (1, .int x1), (2, .int x2), (3, .int x3_), (4, .int x4_), (5, .int x5_)] → W p l e (bw_rm 8 184) s m [.ref (a 0), .int p1, .int p2].toArray below meth c H locs 0 0 Q (F0 m 18 ls [])) (H : Heap) (locs : List Loc) (ls : Array Slot), jX6_ruleOf_80 k18 z asd od om ow ca bo la x1 x2 x3 x5 s0 = some (r, z', asd', od', om', ow', ca', bo', la') → bw_I G A s.heap (bw_mW cy a z rows asd sm buf bm th od om ow ca bo la pl to rd hh) H locs → lv_has ls 7 [(0, .ref (a 0)), (1, .int x1), (2, .int x2), (3, .int x3), (5, .int x5)] → W p l e (bw_rm 8 184) s m [.ref (a 0), .int p1, .int p2].toArray below meth c H locs 0 0 Q (F0 m 80 ls [.int s0]) := by
    intro z asd od om ow ca bo la x1 x2 x3 x5 s0 k18 hk18 H locs ls h hI hl
    unfold jX6_ruleOf_80 at h
    refine lv_istore (lv' := [(4, .int s0), (0, .ref (a 0)), (1, .int x1), (2, .int x2), (3, .int x3), (5, .int x5)]) hx hb dX6_ruleOf_80 hl (by decide) rfl (fun ls hl => ?_)
    obtain ⟨x5_82, e_82⟩ : ∃ y : Int32, y = x5 + 1 := ⟨_, rfl⟩
    have h := bw_let_e h e_82
    refine lv_iinc (v := x5_82) (lv' := [(5, .int x5_82), (4, .int s0), (0, .ref (a 0)), (1, .int x1), (2, .int x2), (3, .int x3)]) hx hb dX6_ruleOf_82 hl (k := 5) rfl (by rw [e_82]; rfl) (by decide) rfl (fun ls hl => ?_)
    clear e_82
    refine lv_goto (tgt := 18) hx hb dX6_ruleOf_85 (by decide) ?_
    exact hk18 _ _ _ z asd od om ow ca bo la x3 s0 x5_82 h hI (lv_sub hl [2,3,4,5,1,0] rfl)
  have j65 : ∀ (z : bw_A1) (asd : bw_A1) (od : bw_A1) (om : Int32) (ow : Int32) (ca : Int32) (bo : Int32) (la : Int32) (x1 : Int32) (x2 : Int32) (x4 : Int32) (x5 : Int32) (x6 : Int32) (s0 : Int32) (k18 : bw_A1 → bw_A1 → bw_A1 → Int32 → Int32 → Int32 → Int32 → Int32 → Int32 → Int32 → Int32 → Option (Int32 × bw_A1 × bw_A1 × bw_A1 × Int32 × Int32 × Int32 × Int32 × Int32)) (hk18 : ∀ (H : Heap) (locs : List Loc) (ls : Array Slot) (z_ : bw_A1) (asd_ : bw_A1) (od_ : bw_A1) (om_ : Int32) (ow_ : Int32) (ca_ : Int32) (bo_ : Int32) (la_ : Int32) (x3_ : Int32) (x4_ : Int32) (x5_ : Int32), k18 z_ asd_ od_ om_ ow_ ca_ bo_ la_ x3_ x4_ x5_ = some (r, z', asd', od', om', ow', ca', bo', la') → bw_I G A s.heap (bw_mW cy a z_ rows asd_ sm buf bm th od_ om_ ow_ ca_ bo_ la_ pl to rd hh) H locs → lv_has ls 7 [(0, .ref (a 0)), (1, .int x1), (2, .int x2), (3, .int x3_), (4, .int x4_), (5, .int x5_)] → W p l e (bw_rm 8 184) s m [.ref (a 0), .int p1, .int p2].toArray below meth c H locs 0 0 Q (F0 m 18 ls [])) (H : Heap) (locs : List Loc) (ls : Array Slot), jX6_ruleOf_65 k18 z asd od om ow ca bo la x1 x2 x4 x5 x6 s0 = some (r, z', asd', od', om', ow', ca', bo', la') → bw_I G A s.heap (bw_mW cy a z rows asd sm buf bm th od om ow ca bo la pl to rd hh) H locs → lv_has ls 7 [(0, .ref (a 0)), (1, .int x1), (2, .int x2), (4, .int x4), (5, .int x5), (6, .int x6)] → W p l e (bw_rm 8 184) s m [.ref (a 0), .int p1, .int p2].toArray below meth c H locs 0 0 Q (F0 m 65 ls [.int s0]) := by
    intro z asd od om ow ca bo la x1 x2 x4 x5 x6 s0 k18 hk18 H locs ls h hI hl
    unfold jX6_ruleOf_65 at h
    refine lv_istore_n (lv' := [(3, .int s0), (0, .ref (a 0)), (1, .int x1), (2, .int x2), (4, .int x4), (5, .int x5), (6, .int x6)]) hx hb dX6_ruleOf_65 rfl hl (by decide) rfl (fun ls hl => ?_)
    refine lv_iload hx hb dX6_ruleOf_66 (lv_at hl 6 rfl) ?_
    refine lv_iload hx hb dX6_ruleOf_68 (lv_at hl 4 rfl) ?_
    refine lv_icmp_le (tgt := 78) hx hb dX6_ruleOf_70 (by decide) (fun c_70 => ?_) (fun c_70 => ?_)
    · rw [if_pos c_70] at h
      refine lv_iload hx hb dX6_ruleOf_78 (lv_at hl 4 rfl) ?_
      exact j80 z asd od om ow ca bo la x1 x2 s0 x5 x4 k18 hk18 _ _ _ h hI (lv_sub hl [1,2,3,0,5] rfl)
    rw [if_neg c_70] at h
    refine lv_iload hx hb dX6_ruleOf_73 (lv_at hl 6 rfl) ?_
    refine lv_goto (tgt := 80) hx hb dX6_ruleOf_75 (by decide) ?_
    exact j80 z asd od om ow ca bo la x1 x2 s0 x5 x6 k18 hk18 _ _ _ h hI (lv_sub hl [1,2,3,0,5] rfl)
  have l18 : ∀ (x1 : Int32) (x2 : Int32) (n : Nat) (H : Heap) (locs : List Loc) (ls : Array Slot) (z : bw_A1) (asd : bw_A1) (od : bw_A1) (om : Int32) (ow : Int32) (ca : Int32) (bo : Int32) (la : Int32) (x3 : Int32) (x4 : Int32) (x5 : Int32), lX6_ruleOf_18 x1 x2 n z asd od om ow ca bo la x3 x4 x5 = some (r, z', asd', od', om', ow', ca', bo', la') → bw_I G A s.heap (bw_mW cy a z rows asd sm buf bm th od om ow ca bo la pl to rd hh) H locs → lv_has ls 7 [(0, .ref (a 0)), (1, .int x1), (2, .int x2), (3, .int x3), (4, .int x4), (5, .int x5)] → W p l e (bw_rm 8 184) s m [.ref (a 0), .int p1, .int p2].toArray below meth c H locs 0 0 Q (F0 m 18 ls []) := by
    intro x1 x2 n
    induction n with
    | zero => intro H locs ls z asd od om ow ca bo la x3 x4 x5 h; exact bw_none h
    | succ n ih =>
      intro H locs ls z asd od om ow ca bo la x3 x4 x5 h hI hl
      have h : bX6_ruleOf_18  (lX6_ruleOf_18 x1 x2 n) x1 x2 z asd od om ow ca bo la x3 x4 x5 = some (r, z', asd', od', om', ow', ca', bo', la') := h
      unfold bX6_ruleOf_18 at h
      refine lv_iload hx hb dX6_ruleOf_18 (lv_at hl 5 rfl) ?_
      refine lv_iconst (v := 3) hx hb dX6_ruleOf_20 rfl ?_
      refine lv_icmp_ge (tgt := 88) hx hb dX6_ruleOf_21 (by decide) (fun c_21 => ?_) (fun c_21 => ?_)
      · rw [if_pos c_21] at h
        refine lv_iload_n hx hb dX6_ruleOf_88 rfl (lv_at hl 3 rfl) ?_
        subst hQ
        exact bw_iret (rr := (r, z', asd', od', om', ow', ca', bo', la')) S hr hlocks h (fun q : (bw_A1 × bw_A1 × bw_A1 × Int32 × Int32 × Int32 × Int32 × Int32) => (bw_mW cy a q.1 rows q.2.1 sm buf bm th q.2.2.1 q.2.2.2.1 q.2.2.2.2.1 q.2.2.2.2.2.1 q.2.2.2.2.2.2.1 q.2.2.2.2.2.2.2 pl to rd hh)) hI rfl dX6_ruleOf_89
      rw [if_neg c_21] at h
      refine lv_aload_n hx hb dX6_ruleOf_24 rfl (lv_at hl 0 rfl) ?_
      obtain ⟨asd_25, hc, h⟩ := bw_b1_e h
      refine bw_callV S hK hZ hI (mX6_putAside l G cy g a z rows asd sm buf bm th od om ow ca bo la pl to rd hh asd_25 hc) Y_X6_putAside V_X6_putAside l_X6_198 ⟨(Nat.le_of_ble_eq_true rfl), (Nat.le_of_ble_eq_true rfl)⟩ (q0 := 0) rfl rfl rfl (ws' := (bw_mW cy a z rows asd_25 sm buf bm th od om ow ca bo la pl to rd hh)) (bw_pS _) (bw_pS' _) rfl rfl hl.1 (rest := []) (st1 := []) rfl rfl (Nat.le_of_ble_eq_true rfl) dX6_ruleOf_25 ⟨Nat.le_refl _, Nat.le_refl _⟩ (fun H locs hI => ?_)
      refine lv_aload_n hx hb dX6_ruleOf_28 rfl (lv_at hl 0 rfl) ?_
      refine bw_get S hK hI 0 0 rfl rfl (by decide) i_X6 f_X6_7 rfl dX6_ruleOf_29 ?_
      refine lv_iconst (v := 3) hx hb dX6_ruleOf_32 rfl ?_
      refine lv_iload hx hb dX6_ruleOf_33 (lv_at hl 5 rfl) ?_
      obtain ⟨z_35, hv, h⟩ := bw_b1_e h
      refine bw_iast hx hb hK hI 1 (ws' := (bw_mW cy a z_35 rows asd_25 sm buf bm th od om ow ca bo la pl to rd hh)) hv rfl rfl dX6_ruleOf_35 (fun H locs hI => ?_)
      refine lv_aload_n hx hb dX6_ruleOf_36 rfl (lv_at hl 0 rfl) ?_
      refine lv_iload_n hx hb dX6_ruleOf_37 rfl (lv_at hl 1 rfl) ?_
      refine lv_iload_n hx hb dX6_ruleOf_38 rfl (lv_at hl 2 rfl) ?_
      obtain ⟨z_39, od_39, om_39, ow_39, ca_39, bo_39, la_39, hc, h⟩ := bw_b7_e h
      refine bw_callV S hK hZ hI (mX6_doNow l G cy g a z_35 rows asd_25 sm buf bm th od om ow ca bo la pl to rd hh x1 x2 z_39 od_39 om_39 ow_39 ca_39 bo_39 la_39 hc) Y_X6_doNow V_X6_doNow l_X6_132 ⟨(Nat.le_of_ble_eq_true rfl), (Nat.le_of_ble_eq_true rfl)⟩ (q0 := 0) rfl rfl rfl (ws' := (bw_mW cy a z_39 rows asd_25 sm buf bm th od_39 om_39 ow_39 ca_39 bo_39 la_39 pl to rd hh)) (bw_pS _) (bw_pS' _) rfl rfl hl.1 (rest := []) (st1 := []) rfl rfl (Nat.le_of_ble_eq_true rfl) dX6_ruleOf_39 ⟨Nat.le_refl _, Nat.le_refl _⟩ (fun H locs hI => ?_)
      refine lv_aload_n hx hb dX6_ruleOf_42 rfl (lv_at hl 0 rfl) ?_
      obtain ⟨r43, hc, h⟩ := bw_b1_e h
      refine bw_callV S hK hZ hI (mX6_leastLeft l G cy g a z_39 rows asd_25 sm buf bm th od_39 om_39 ow_39 ca_39 bo_39 la_39 pl to rd hh r43 hc) Y_X6_leastLeft V_X6_leastLeft l_X6_214 ⟨(Nat.le_of_ble_eq_true rfl), (Nat.le_of_ble_eq_true rfl)⟩ (q0 := 0) rfl rfl rfl (ws' := (bw_mW cy a z_39 rows asd_25 sm buf bm th od_39 om_39 ow_39 ca_39 bo_39 la_39 pl to rd hh)) (bw_pS _) (bw_pS' _) rfl rfl hl.1 (rest := []) (st1 := [.int r43]) rfl rfl (Nat.le_of_ble_eq_true rfl) dX6_ruleOf_43 ⟨Nat.le_refl _, Nat.le_refl _⟩ (fun H locs hI => ?_)
      refine lv_istore (lv' := [(6, .int r43), (0, .ref (a 0)), (1, .int x1), (2, .int x2), (3, .int x3), (4, .int x4), (5, .int x5)]) hx hb dX6_ruleOf_46 hl (by decide) rfl (fun ls hl => ?_)
      refine lv_aload_n hx hb dX6_ruleOf_48 rfl (lv_at hl 1 rfl) ?_
      obtain ⟨z_49, hc, h⟩ := bw_b1_e h
      refine bw_callV S hK hZ hI (mX6_putBack l G cy g a z_39 rows asd_25 sm buf bm th od_39 om_39 ow_39 ca_39 bo_39 la_39 pl to rd hh z_49 hc) Y_X6_putBack V_X6_putBack l_X6_201 ⟨(Nat.le_of_ble_eq_true rfl), (Nat.le_of_ble_eq_true rfl)⟩ (q0 := 0) rfl rfl rfl (ws' := (bw_mW cy a z_49 rows asd_25 sm buf bm th od_39 om_39 ow_39 ca_39 bo_39 la_39 pl to rd hh)) (bw_pS _) (bw_pS' _) rfl rfl hl.1 (rest := []) (st1 := []) rfl rfl (Nat.le_of_ble_eq_true rfl) dX6_ruleOf_49 ⟨Nat.le_refl _, Nat.le_refl _⟩ (fun H locs hI => ?_)
      refine lv_iload hx hb dX6_ruleOf_52 (lv_at hl 0 rfl) ?_
      refine lv_iload hx hb dX6_ruleOf_54 (lv_at hl 5 rfl) ?_
      refine lv_icmp_le (tgt := 64) hx hb dX6_ruleOf_56 (by decide) (fun c_56 => ?_) (fun c_56 => ?_)
      · rw [if_pos c_56] at h
        refine lv_iload_n hx hb dX6_ruleOf_64 rfl (lv_at hl 4 rfl) ?_
        exact j65 z_49 asd_25 od_39 om_39 ow_39 ca_39 bo_39 la_39 x1 x2 x4 x5 r43 x3 (lX6_ruleOf_18 x1 x2 n) ih _ _ _ h hI (lv_sub hl [1,2,3,5,6,0] rfl)
      rw [if_neg c_56] at h
      refine lv_iload hx hb dX6_ruleOf_59 (lv_at hl 6 rfl) ?_
      refine lv_goto (tgt := 65) hx hb dX6_ruleOf_61 (by decide) ?_
      exact j65 z_49 asd_25 od_39 om_39 ow_39 ca_39 bo_39 la_39 x1 x2 x4 x5 r43 x5 (lX6_ruleOf_18 x1 x2 n) ih _ _ _ h hI (lv_sub hl [1,2,3,5,6,0] rfl)
  unfold fX6_ruleOf at h
  refine lv_aload_n hx hb dX6_ruleOf_0 rfl (lv_at hl 0 rfl) ?_
  refine lv_iload_n hx hb dX6_ruleOf_1 rfl (lv_at hl 1 rfl) ?_
  obtain ⟨r2, hc, h⟩ := bw_b1_e h
  refine bw_callV S hK hZ hI (mX6_mayDo l G cy g a z rows asd sm buf bm th od om ow ca bo la pl to rd hh p1 r2 hc) Y_X6_mayDo V_X6_mayDo l_X6_129 ⟨(Nat.le_of_ble_eq_true rfl), (Nat.le_of_ble_eq_true rfl)⟩ (q0 := 0) rfl rfl rfl (ws' := (bw_mW cy a z rows asd sm buf bm th od om ow ca bo la pl to rd hh)) (bw_pS _) (bw_pS' _) rfl rfl hl.1 (rest := []) (st1 := [.int r2]) rfl rfl (Nat.le_of_ble_eq_true rfl) dX6_ruleOf_2 ⟨Nat.le_refl _, Nat.le_refl _⟩ (fun H locs hI => ?_)
  refine lv_if_ne (tgt := 10) hx hb dX6_ruleOf_5 (by decide) (fun c_5 => ?_) (fun c_5 => ?_)
  · rw [if_neg c_5] at h
    refine lv_iconst (v := (-1)) hx hb dX6_ruleOf_10 rfl ?_
    refine lv_istore_n (lv' := [(3, .int (-1)), (0, .ref (a 0)), (1, .int p1), (2, .int p2)]) hx hb dX6_ruleOf_11 rfl hl (by decide) rfl (fun ls hl => ?_)
    refine lv_iconst (v := (-1)) hx hb dX6_ruleOf_12 rfl ?_
    refine lv_istore (lv' := [(4, .int (-1)), (3, .int (-1)), (0, .ref (a 0)), (1, .int p1), (2, .int p2)]) hx hb dX6_ruleOf_13 hl (by decide) rfl (fun ls hl => ?_)
    refine lv_iconst (v := 0) hx hb dX6_ruleOf_15 rfl ?_
    refine lv_istore (lv' := [(5, .int 0), (4, .int (-1)), (3, .int (-1)), (0, .ref (a 0)), (1, .int p1), (2, .int p2)]) hx hb dX6_ruleOf_16 hl (by decide) rfl (fun ls hl => ?_)
    exact l18 p1 p2 bw_fu _ _ _ z asd od om ow ca bo la (-1) (-1) 0 h hI (lv_sub hl [3,4,5,2,1,0] rfl)
  rw [if_pos c_5] at h
  refine lv_iconst (v := (-1)) hx hb dX6_ruleOf_8 rfl ?_
  subst hQ
  exact bw_iret (rr := (r, z', asd', od', om', ow', ca', bo', la')) S hr hlocks h (fun q : (bw_A1 × bw_A1 × bw_A1 × Int32 × Int32 × Int32 × Int32 × Int32) => (bw_mW cy a q.1 rows q.2.1 sm buf bm th q.2.2.1 q.2.2.2.1 q.2.2.2.2.1 q.2.2.2.2.2.1 q.2.2.2.2.2.2.1 q.2.2.2.2.2.2.2 pl to rd hh)) hI rfl dX6_ruleOf_9
set_option maxHeartbeats 4000000 in
set_option maxRecDepth 100000 in
theorem mX6_bestRule (l : Launch) (G : va_G) (cy : Nat → ClassId) (g : Nat) (a : Nat → Nat) (z : bw_A1) (rows : bw_A1) (asd : bw_A1) (sm : Int32) (buf : bw_A1) (bm : Int32) (th : Int32) (od : bw_A1) (om : Int32) (ow : Int32) (ca : Int32) (bo : Int32) (la : Int32) (pl : Int32) (to : Int32) (rd : bw_A1) (hh : Int64) (p1 : Int32) (p2 : Int32) (r : Int32) (z' : bw_A1) (asd' : bw_A1) (th' : Int32) (od' : bw_A1) (om' : Int32) (ow' : Int32) (ca' : Int32) (bo' : Int32) (la' : Int32) (h : fX6_bestRule z asd th od om ow ca bo la p1 p2 = some (r, z', asd', th', od', om', ow', ca', bo', la')) : bw_M l yX6_bestRule cX6_bestRule 3 (some .int) 9 210 G cy g [.ref (a 0), .int p1, .int p2] (bw_mW cy a z rows asd sm buf bm th od om ow ca bo la pl to rd hh) (some (.int r)) (bw_mW cy a z' rows asd' sm buf bm th' od' om' ow' ca' bo' la' pl to rd hh) := by
  refine bw_ofW (by decide +kernel) RX6 rfl (Nat.le_of_ble_eq_true rfl) ?_
  intro p e s m below meth c ls S hr hlocks hK hZ hI hl
  have hx := S.1
  have hb := S.2.1
  have hown := S.2.2.2.1
  have hts := S.2.2.2.2
  generalize va_A _ s.heap.size = A at hI hZ ⊢
  generalize hQ : MQ below _ _ s 0 0 A = Q
  have hl : lv_has ls 3 [(0, .ref (a 0)), (1, .int p1), (2, .int p2)] := hl
  unfold fX6_bestRule at h
  refine lv_aload_n hx hb dX6_bestRule_0 rfl (lv_at hl 0 rfl) ?_
  refine lv_iconst (v := 0) hx hb dX6_bestRule_1 rfl ?_
  refine bw_put S hK hI 0 6 (ws' := (bw_mW cy a z rows asd sm buf bm 0 od om ow ca bo la pl to rd hh)) tyX6 tyX6_ok nmX6 rfl rfl (by decide) i_X6 f_X6_28 rfl rfl rfl rfl (Nat.le_of_ble_eq_true rfl) rfl dX6_bestRule_2 (fun H locs hI => ?_)
  refine lv_aload_n hx hb dX6_bestRule_5 rfl (lv_at hl 0 rfl) ?_
  refine lv_iload_n hx hb dX6_bestRule_6 rfl (lv_at hl 1 rfl) ?_
  obtain ⟨r7, hc, h⟩ := bw_b1_e h
  refine bw_callV S hK hZ hI (mX6_isProject l G cy g a z rows asd sm buf bm 0 od om ow ca bo la pl to rd hh p1 r7 hc) Y_X6_isProject V_X6_isProject l_X6_123 ⟨(Nat.le_of_ble_eq_true rfl), (Nat.le_of_ble_eq_true rfl)⟩ (q0 := 0) rfl rfl rfl (ws' := (bw_mW cy a z rows asd sm buf bm 0 od om ow ca bo la pl to rd hh)) (bw_pS _) (bw_pS' _) rfl rfl hl.1 (rest := []) (st1 := [.int r7]) rfl rfl (Nat.le_of_ble_eq_true rfl) dX6_bestRule_7 ⟨Nat.le_refl _, Nat.le_refl _⟩ (fun H locs hI => ?_)
  refine lv_if_ne (tgt := 19) hx hb dX6_bestRule_10 (by decide) (fun c_10 => ?_) (fun c_10 => ?_)
  · rw [if_neg c_10] at h
    refine lv_iload_n hx hb dX6_bestRule_19 rfl (lv_at hl 2 rfl) ?_
    refine lv_iconst (v := 0) hx hb dX6_bestRule_20 rfl ?_
    refine lv_sipush (v := 300) hx hb dX6_bestRule_21 (by decide) ?_
    obtain ⟨r24, hc, h⟩ := bw_b1_e h
    refine bw_callP S hK hZ hI (mX6_in l G cy g p2 0 300 r24 hc) Y_X6_in V_X6_in l_X6_35 ⟨(Nat.le_of_ble_eq_true rfl), (Nat.le_of_ble_eq_true rfl)⟩ (rest := []) (st1 := [.int r24]) rfl hl.1 rfl rfl (Nat.le_of_ble_eq_true rfl) dX6_bestRule_24 ⟨Nat.le_refl _, Nat.le_refl _⟩ (fun H locs hI => ?_)
    refine lv_if_eq (tgt := 39) hx hb dX6_bestRule_27 (by decide) (fun c_27 => ?_) (fun c_27 => ?_)
    · rw [if_pos c_27] at h
      refine lv_aload_n hx hb dX6_bestRule_39 rfl (lv_at hl 0 rfl) ?_
      refine lv_iconst (v := 2) hx hb dX6_bestRule_40 rfl ?_
      obtain ⟨r41, th_41, hc, h⟩ := bw_b2_e h
      refine bw_callV S hK hZ hI (mX6_fails l G cy g a z rows asd sm buf bm 0 od om ow ca bo la pl to rd hh 2 r41 th_41 hc) Y_X6_fails V_X6_fails l_X6_114 ⟨(Nat.le_of_ble_eq_true rfl), (Nat.le_of_ble_eq_true rfl)⟩ (q0 := 0) rfl rfl rfl (ws' := (bw_mW cy a z rows asd sm buf bm th_41 od om ow ca bo la pl to rd hh)) (bw_pS _) (bw_pS' _) rfl rfl hl.1 (rest := []) (st1 := [.int r41]) rfl rfl (Nat.le_of_ble_eq_true rfl) dX6_bestRule_41 ⟨Nat.le_refl _, Nat.le_refl _⟩ (fun H locs hI => ?_)
      subst hQ
      exact bw_iret (rr := (r, z', asd', th', od', om', ow', ca', bo', la')) S hr hlocks h (fun q : (bw_A1 × bw_A1 × Int32 × bw_A1 × Int32 × Int32 × Int32 × Int32 × Int32) => (bw_mW cy a q.1 rows q.2.1 sm buf bm q.2.2.1 q.2.2.2.1 q.2.2.2.2.1 q.2.2.2.2.2.1 q.2.2.2.2.2.2.1 q.2.2.2.2.2.2.2.1 q.2.2.2.2.2.2.2.2 pl to rd hh)) hI rfl dX6_bestRule_44
    rw [if_neg c_27] at h
    refine lv_aload_n hx hb dX6_bestRule_30 rfl (lv_at hl 0 rfl) ?_
    refine lv_iload_n hx hb dX6_bestRule_31 rfl (lv_at hl 1 rfl) ?_
    refine lv_iload_n hx hb dX6_bestRule_32 rfl (lv_at hl 2 rfl) ?_
    obtain ⟨r33, z_33, asd_33, od_33, om_33, ow_33, ca_33, bo_33, la_33, hc, h⟩ := bw_b9_e h
    refine bw_callV S hK hZ hI (mX6_ruleOf l G cy g a z rows asd sm buf bm 0 od om ow ca bo la pl to rd hh p1 p2 r33 z_33 asd_33 od_33 om_33 ow_33 ca_33 bo_33 la_33 hc) Y_X6_ruleOf V_X6_ruleOf l_X6_217 ⟨(Nat.le_of_ble_eq_true rfl), (Nat.le_of_ble_eq_true rfl)⟩ (q0 := 0) rfl rfl rfl (ws' := (bw_mW cy a z_33 rows asd_33 sm buf bm 0 od_33 om_33 ow_33 ca_33 bo_33 la_33 pl to rd hh)) (bw_pS _) (bw_pS' _) rfl rfl hl.1 (rest := []) (st1 := [.int r33]) rfl rfl (Nat.le_of_ble_eq_true rfl) dX6_bestRule_33 ⟨Nat.le_refl _, Nat.le_refl _⟩ (fun H locs hI => ?_)
    refine lv_goto (tgt := 44) hx hb dX6_bestRule_36 (by decide) ?_
    subst hQ
    exact bw_iret (rr := (r, z', asd', th', od', om', ow', ca', bo', la')) S hr hlocks h (fun q : (bw_A1 × bw_A1 × Int32 × bw_A1 × Int32 × Int32 × Int32 × Int32 × Int32) => (bw_mW cy a q.1 rows q.2.1 sm buf bm q.2.2.1 q.2.2.2.1 q.2.2.2.2.1 q.2.2.2.2.2.1 q.2.2.2.2.2.2.1 q.2.2.2.2.2.2.2.1 q.2.2.2.2.2.2.2.2 pl to rd hh)) hI rfl dX6_bestRule_44
  rw [if_pos c_10] at h
  refine lv_aload_n hx hb dX6_bestRule_13 rfl (lv_at hl 0 rfl) ?_
  refine lv_iconst (v := 1) hx hb dX6_bestRule_14 rfl ?_
  obtain ⟨r15, th_15, hc, h⟩ := bw_b2_e h
  refine bw_callV S hK hZ hI (mX6_fails l G cy g a z rows asd sm buf bm 0 od om ow ca bo la pl to rd hh 1 r15 th_15 hc) Y_X6_fails V_X6_fails l_X6_114 ⟨(Nat.le_of_ble_eq_true rfl), (Nat.le_of_ble_eq_true rfl)⟩ (q0 := 0) rfl rfl rfl (ws' := (bw_mW cy a z rows asd sm buf bm th_15 od om ow ca bo la pl to rd hh)) (bw_pS _) (bw_pS' _) rfl rfl hl.1 (rest := []) (st1 := [.int r15]) rfl rfl (Nat.le_of_ble_eq_true rfl) dX6_bestRule_15 ⟨Nat.le_refl _, Nat.le_refl _⟩ (fun H locs hI => ?_)
  subst hQ
  exact bw_iret (rr := (r, z', asd', th', od', om', ow', ca', bo', la')) S hr hlocks h (fun q : (bw_A1 × bw_A1 × Int32 × bw_A1 × Int32 × Int32 × Int32 × Int32 × Int32) => (bw_mW cy a q.1 rows q.2.1 sm buf bm q.2.2.1 q.2.2.2.1 q.2.2.2.2.1 q.2.2.2.2.2.1 q.2.2.2.2.2.2.1 q.2.2.2.2.2.2.2.1 q.2.2.2.2.2.2.2.2 pl to rd hh)) hI rfl dX6_bestRule_18
set_option maxHeartbeats 4000000 in
set_option maxRecDepth 100000 in
theorem mX6_shareOf (l : Launch) (G : va_G) (cy : Nat → ClassId) (g : Nat) (a : Nat → Nat) (z : bw_A1) (rows : bw_A1) (asd : bw_A1) (sm : Int32) (buf : bw_A1) (bm : Int32) (th : Int32) (od : bw_A1) (om : Int32) (ow : Int32) (ca : Int32) (bo : Int32) (la : Int32) (pl : Int32) (to : Int32) (rd : bw_A1) (hh : Int64) (r : UInt64) (h : fX6_shareOf z = some r) : bw_M l yX6_shareOf cX6_shareOf 2 (some .double) 5 110 G cy g [.ref (a 0)] (bw_mW cy a z rows asd sm buf bm th od om ow ca bo la pl to rd hh) (some (.double r)) (bw_mW cy a z rows asd sm buf bm th od om ow ca bo la pl to rd hh) := by
  refine bw_ofW (by decide +kernel) RX6 rfl (Nat.le_of_ble_eq_true rfl) ?_
  intro p e s m below meth c ls S hr hlocks hK hZ hI hl
  have hx := S.1
  have hb := S.2.1
  have hown := S.2.2.2.1
  have hts := S.2.2.2.2
  generalize va_A _ s.heap.size = A at hI hZ ⊢
  generalize hQ : MQ below _ _ s 0 0 A = Q
  have hl : lv_has ls 2 [(0, .ref (a 0))] := hl
  unfold fX6_shareOf at h
  refine lv_aload_n hx hb dX6_shareOf_0 rfl (lv_at hl 0 rfl) ?_
  obtain ⟨r1, hc, h⟩ := bw_b1_e h
  refine bw_callV S hK hZ hI (mX6_delays l G cy g a z rows asd sm buf bm th od om ow ca bo la pl to rd hh r1 hc) Y_X6_delays V_X6_delays l_X6_192 ⟨(Nat.le_of_ble_eq_true rfl), (Nat.le_of_ble_eq_true rfl)⟩ (q0 := 0) rfl rfl rfl (ws' := (bw_mW cy a z rows asd sm buf bm th od om ow ca bo la pl to rd hh)) (bw_pS _) (bw_pS' _) rfl rfl hl.1 (rest := []) (st1 := [.int r1]) rfl rfl (Nat.le_of_ble_eq_true rfl) dX6_shareOf_1 ⟨Nat.le_refl _, Nat.le_refl _⟩ (fun H locs hI => ?_)
  refine lv_istore_n (lv' := [(1, .int r1), (0, .ref (a 0))]) hx hb dX6_shareOf_4 rfl hl (by decide) rfl (fun ls hl => ?_)
  refine lv_iload_n hx hb dX6_shareOf_5 rfl (lv_at hl 0 rfl) ?_
  refine lv_if_ne (tgt := 13) hx hb dX6_shareOf_6 (by decide) (fun c_6 => ?_) (fun c_6 => ?_)
  · rw [if_neg c_6] at h
    refine lv_aload_n hx hb dX6_shareOf_13 rfl (lv_at hl 1 rfl) ?_
    refine lv_bipush (v := 6) hx hb dX6_shareOf_14 (by decide) ?_
    obtain ⟨r16, hc, h⟩ := bw_b1_e h
    refine bw_callV S hK hZ hI (mX6_ofProjects l G cy g a z rows asd sm buf bm th od om ow ca bo la pl to rd hh 6 r16 hc) Y_X6_ofProjects V_X6_ofProjects l_X6_189 ⟨(Nat.le_of_ble_eq_true rfl), (Nat.le_of_ble_eq_true rfl)⟩ (q0 := 0) rfl rfl rfl (ws' := (bw_mW cy a z rows asd sm buf bm th od om ow ca bo la pl to rd hh)) (bw_pS _) (bw_pS' _) rfl rfl hl.1 (rest := []) (st1 := [.int r16]) rfl rfl (Nat.le_of_ble_eq_true rfl) dX6_shareOf_16 ⟨Nat.le_refl _, Nat.le_refl _⟩ (fun H locs hI => ?_)
    refine lv_i2d hx hb dX6_shareOf_19 ?_
    refine lv_iload_n hx hb dX6_shareOf_20 rfl (lv_at hl 0 rfl) ?_
    refine lv_i2d hx hb dX6_shareOf_21 ?_
    obtain ⟨w22, e_22⟩ : ∃ y : UInt64, y = FP.ddiv (FP.i2d r16) (FP.i2d r1) := ⟨_, rfl⟩
    have h := bw_let_e h e_22
    obtain ⟨h9, h⟩ := bw_num_e h
    refine lv_ddiv hx hb dX6_shareOf_22 (by rw [← e_22]; exact h9) ?_
    rw [← e_22]
    subst hQ
    exact bw_dretP S hr hlocks h hI dX6_shareOf_23
  rw [if_pos c_6] at h
  refine lv_dconst0 hx hb dX6_shareOf_9 ?_
  refine lv_goto (tgt := 23) hx hb dX6_shareOf_10 (by decide) ?_
  subst hQ
  exact bw_dretP S hr hlocks h hI dX6_shareOf_23
set_option maxHeartbeats 4000000 in
set_option maxRecDepth 100000 in
theorem mX6_lateShare (l : Launch) (G : va_G) (cy : Nat → ClassId) (g : Nat) (a : Nat → Nat) (z : bw_A1) (rows : bw_A1) (asd : bw_A1) (sm : Int32) (buf : bw_A1) (bm : Int32) (th : Int32) (od : bw_A1) (om : Int32) (ow : Int32) (ca : Int32) (bo : Int32) (la : Int32) (pl : Int32) (to : Int32) (rd : bw_A1) (hh : Int64) (r : UInt64) (th' : Int32) (h : fX6_lateShare z th = some (r, th')) : bw_M l yX6_lateShare cX6_lateShare 1 (some .double) 6 131 G cy g [.ref (a 0)] (bw_mW cy a z rows asd sm buf bm th od om ow ca bo la pl to rd hh) (some (.double r)) (bw_mW cy a z rows asd sm buf bm th' od om ow ca bo la pl to rd hh) := by
  refine bw_ofW (by decide +kernel) RX6 rfl (Nat.le_of_ble_eq_true rfl) ?_
  intro p e s m below meth c ls S hr hlocks hK hZ hI hl
  have hx := S.1
  have hb := S.2.1
  have hown := S.2.2.2.1
  have hts := S.2.2.2.2
  generalize va_A _ s.heap.size = A at hI hZ ⊢
  generalize hQ : MQ below _ _ s 0 0 A = Q
  have hl : lv_has ls 1 [(0, .ref (a 0))] := hl
  unfold fX6_lateShare at h
  refine lv_aload_n hx hb dX6_lateShare_0 rfl (lv_at hl 0 rfl) ?_
  refine lv_iconst (v := 0) hx hb dX6_lateShare_1 rfl ?_
  refine bw_put S hK hI 0 6 (ws' := (bw_mW cy a z rows asd sm buf bm 0 od om ow ca bo la pl to rd hh)) tyX6 tyX6_ok nmX6 rfl rfl (by decide) i_X6 f_X6_28 rfl rfl rfl rfl (Nat.le_of_ble_eq_true rfl) rfl dX6_lateShare_2 (fun H locs hI => ?_)
  refine lv_aload_n hx hb dX6_lateShare_5 rfl (lv_at hl 0 rfl) ?_
  obtain ⟨r6, hc, h⟩ := bw_b1_e h
  refine bw_callV S hK hZ hI (mX6_shareOf l G cy g a z rows asd sm buf bm 0 od om ow ca bo la pl to rd hh r6 hc) Y_X6_shareOf V_X6_shareOf l_X6_220 ⟨(Nat.le_of_ble_eq_true rfl), (Nat.le_of_ble_eq_true rfl)⟩ (q0 := 0) rfl rfl rfl (ws' := (bw_mW cy a z rows asd sm buf bm 0 od om ow ca bo la pl to rd hh)) (bw_pS _) (bw_pS' _) rfl rfl hl.1 (rest := []) (st1 := [.double r6]) rfl rfl (Nat.le_of_ble_eq_true rfl) dX6_lateShare_6 ⟨Nat.le_refl _, Nat.le_refl _⟩ (fun H locs hI => ?_)
  subst hQ
  exact bw_dret (rr := (r, th')) S hr hlocks h (fun q : Int32 => (bw_mW cy a z rows asd sm buf bm q od om ow ca bo la pl to rd hh)) hI dX6_lateShare_9
set_option maxHeartbeats 4000000 in
set_option maxRecDepth 100000 in
theorem mX6_mix (l : Launch) (G : va_G) (cy : Nat → ClassId) (g : Nat) (a : Nat → Nat) (z : bw_A1) (rows : bw_A1) (asd : bw_A1) (sm : Int32) (buf : bw_A1) (bm : Int32) (th : Int32) (od : bw_A1) (om : Int32) (ow : Int32) (ca : Int32) (bo : Int32) (la : Int32) (pl : Int32) (to : Int32) (rd : bw_A1) (hh : Int64) (p1 : Int64) (hh' : Int64) (h : fX6_mix hh p1 = some hh') : bw_M l yX6_mix cX6_mix 3 none 0 0 G cy g [.ref (a 0), .long p1] (bw_mW cy a z rows asd sm buf bm th od om ow ca bo la pl to rd hh) none (bw_mW cy a z rows asd sm buf bm th od om ow ca bo la pl to rd hh') := by
  refine bw_ofW (by decide +kernel) RX6 rfl (Nat.le_of_ble_eq_true rfl) ?_
  intro p e s m below meth c ls S hr hlocks hK hZ hI hl
  have hx := S.1
  have hb := S.2.1
  have hown := S.2.2.2.1
  have hts := S.2.2.2.2
  generalize va_A _ s.heap.size = A at hI hZ ⊢
  generalize hQ : MQ below _ _ s 0 0 A = Q
  have hl : lv_has ls 3 [(0, .ref (a 0)), (1, .long p1)] := hl
  unfold fX6_mix at h
  refine lv_aload_n hx hb dX6_mix_0 rfl (lv_at hl 0 rfl) ?_
  refine lv_ldc2 hx hb hown (hts _ (List.mem_cons_of_mem _ k_X6_224)) dX6_mix_1 ?_
  refine lv_aload_n hx hb dX6_mix_4 rfl (lv_at hl 0 rfl) ?_
  refine bw_get S hK hI 0 16 rfl rfl (by decide) i_X6 f_X6_226 rfl dX6_mix_5 ?_
  refine lv_lmul hx hb dX6_mix_8 ?_
  refine lv_lload_n hx hb dX6_mix_9 rfl (lv_at hl 1 rfl) ?_
  refine lv_ladd hx hb dX6_mix_10 ?_
  refine lv_topl (fun hh_11 e_11 => ?_)
  have h := bw_let_e h e_11
  clear e_11
  refine bw_put S hK hI 0 16 (ws' := (bw_mW cy a z rows asd sm buf bm th od om ow ca bo la pl to rd hh_11)) tyX6 tyX6_ok nmX6 rfl rfl (by decide) i_X6 f_X6_226 rfl rfl rfl rfl (Nat.le_of_ble_eq_true rfl) rfl dX6_mix_11 (fun H locs hI => ?_)
  subst hQ
  exact bw_vret S hr hlocks h (fun q : Int64 => (bw_mW cy a z rows asd sm buf bm th od om ow ca bo la pl to rd q)) hI dX6_mix_14
set_option maxHeartbeats 4000000 in
set_option maxRecDepth 100000 in
theorem mX6_mixProject (l : Launch) (G : va_G) (cy : Nat → ClassId) (g : Nat) (a : Nat → Nat) (z : bw_A1) (rows : bw_A1) (asd : bw_A1) (sm : Int32) (buf : bw_A1) (bm : Int32) (th : Int32) (od : bw_A1) (om : Int32) (ow : Int32) (ca : Int32) (bo : Int32) (la : Int32) (pl : Int32) (to : Int32) (rd : bw_A1) (hh : Int64) (p1 : Int32) (z' : bw_A1) (asd' : bw_A1) (od' : bw_A1) (om' : Int32) (ow' : Int32) (ca' : Int32) (bo' : Int32) (la' : Int32) (hh' : Int64) (h : fX6_mixProject z asd od om ow ca bo la hh p1 = some (z', asd', od', om', ow', ca', bo', la', hh')) : bw_M l yX6_mixProject cX6_mixProject 4 none 9 210 G cy g [.ref (a 0), .int p1] (bw_mW cy a z rows asd sm buf bm th od om ow ca bo la pl to rd hh) none (bw_mW cy a z' rows asd' sm buf bm th od' om' ow' ca' bo' la' pl to rd hh') := by
  refine bw_ofW (by decide +kernel) RX6 rfl (Nat.le_of_ble_eq_true rfl) ?_
  intro p e s m below meth c ls S hr hlocks hK hZ hI hl
  have hx := S.1
  have hb := S.2.1
  have hown := S.2.2.2.1
  have hts := S.2.2.2.2
  generalize va_A _ s.heap.size = A at hI hZ ⊢
  generalize hQ : MQ below _ _ s 0 0 A = Q
  have hl : lv_has ls 4 [(0, .ref (a 0)), (1, .int p1)] := hl
  have l148 : ∀ (z : bw_A1) (asd : bw_A1) (od : bw_A1) (om : Int32) (ow : Int32) (ca : Int32) (bo : Int32) (la : Int32) (x1 : Int32) (n : Nat) (H : Heap) (locs : List Loc) (ls : Array Slot) (hh : Int64) (x2 : Int32), lX6_mixProject_148 z asd od om ow ca bo la x1 n hh x2 = some (z', asd', od', om', ow', ca', bo', la', hh') → bw_I G A s.heap (bw_mW cy a z rows asd sm buf bm th od om ow ca bo la pl to rd hh) H locs → lv_has ls 4 [(0, .ref (a 0)), (1, .int x1), (2, .int x2)] → W p l e (bw_rm 9 210) s m [.ref (a 0), .int p1].toArray below meth c H locs 0 0 Q (F0 m 148 ls []) := by
    intro z asd od om ow ca bo la x1 n
    induction n with
    | zero => intro H locs ls hh x2 h; exact bw_none h
    | succ n ih =>
      intro H locs ls hh x2 h hI hl
      have h : bX6_mixProject_148  (lX6_mixProject_148 z asd od om ow ca bo la x1 n) z asd od om ow ca bo la x1 hh x2 = some (z', asd', od', om', ow', ca', bo', la', hh') := h
      unfold bX6_mixProject_148 at h
      refine lv_iload_n hx hb dX6_mixProject_148 rfl (lv_at hl 2 rfl) ?_
      refine lv_aload_n hx hb dX6_mixProject_149 rfl (lv_at hl 0 rfl) ?_
      refine bw_get S hK hI 0 0 rfl rfl (by decide) i_X6 f_X6_7 rfl dX6_mixProject_150 ?_
      refine lv_iconst (v := 0) hx hb dX6_mixProject_153 rfl ?_
      obtain ⟨v154, hv, h⟩ := bw_b1_e h
      refine bw_iald hx hb hK hI 1 hv rfl dX6_mixProject_154 ?_
      refine lv_icmp_ge (tgt := 175) hx hb dX6_mixProject_155 (by decide) (fun c_155 => ?_) (fun c_155 => ?_)
      · rw [if_pos c_155] at h
        subst hQ
        exact bw_vret S hr hlocks h (fun q : (bw_A1 × bw_A1 × bw_A1 × Int32 × Int32 × Int32 × Int32 × Int32 × Int64) => (bw_mW cy a q.1 rows q.2.1 sm buf bm th q.2.2.1 q.2.2.2.1 q.2.2.2.2.1 q.2.2.2.2.2.1 q.2.2.2.2.2.2.1 q.2.2.2.2.2.2.2.1 pl to rd q.2.2.2.2.2.2.2.2)) hI dX6_mixProject_175
      rw [if_neg c_155] at h
      refine lv_aload_n hx hb dX6_mixProject_158 rfl (lv_at hl 0 rfl) ?_
      refine lv_aload_n hx hb dX6_mixProject_159 rfl (lv_at hl 0 rfl) ?_
      refine lv_iload_n hx hb dX6_mixProject_160 rfl (lv_at hl 1 rfl) ?_
      refine lv_iload_n hx hb dX6_mixProject_161 rfl (lv_at hl 2 rfl) ?_
      obtain ⟨r162, hc, h⟩ := bw_b1_e h
      refine bw_callV S hK hZ hI (mX6_owedOf l G cy g a z rows asd sm buf bm th od om ow ca bo la pl to rd hh x1 x2 r162 hc) Y_X6_owedOf V_X6_owedOf l_X6_135 ⟨(Nat.le_of_ble_eq_true rfl), (Nat.le_of_ble_eq_true rfl)⟩ (q0 := 0) rfl rfl rfl (ws' := (bw_mW cy a z rows asd sm buf bm th od om ow ca bo la pl to rd hh)) (bw_pS _) (bw_pS' _) rfl rfl hl.1 (rest := [.ref (a 0)]) (st1 := [.int r162, .ref (a 0)]) rfl rfl (Nat.le_of_ble_eq_true rfl) dX6_mixProject_162 ⟨Nat.le_refl _, Nat.le_refl _⟩ (fun H locs hI => ?_)
      refine lv_i2l hx hb dX6_mixProject_165 rfl ?_
      obtain ⟨hh_166, hc, h⟩ := bw_b1_e h
      refine bw_callV S hK hZ hI (mX6_mix l G cy g a z rows asd sm buf bm th od om ow ca bo la pl to rd hh (Int32.toInt64 r162) hh_166 hc) Y_X6_mix V_X6_mix l_X6_230 ⟨(Nat.le_of_ble_eq_true rfl), (Nat.le_of_ble_eq_true rfl)⟩ (q0 := 0) rfl rfl rfl (ws' := (bw_mW cy a z rows asd sm buf bm th od om ow ca bo la pl to rd hh_166)) (bw_pS _) (bw_pS' _) rfl rfl hl.1 (rest := []) (st1 := []) rfl rfl (Nat.le_of_ble_eq_true rfl) dX6_mixProject_166 ⟨Nat.le_refl _, Nat.le_refl _⟩ (fun H locs hI => ?_)
      obtain ⟨x2_169, e_169⟩ : ∃ y : Int32, y = x2 + 1 := ⟨_, rfl⟩
      have h := bw_let_e h e_169
      refine lv_iinc (v := x2_169) (lv' := [(2, .int x2_169), (0, .ref (a 0)), (1, .int x1)]) hx hb dX6_mixProject_169 hl (k := 2) rfl (by rw [e_169]; rfl) (by decide) rfl (fun ls hl => ?_)
      clear e_169
      refine lv_goto (tgt := 148) hx hb dX6_mixProject_172 (by decide) ?_
      exact ih _ _ _ hh_166 x2_169 h hI (lv_sub hl [1,2,0] rfl)
  have l110 : ∀ (x1 : Int32) (n : Nat) (H : Heap) (locs : List Loc) (ls : Array Slot) (z : bw_A1) (asd : bw_A1) (od : bw_A1) (om : Int32) (ow : Int32) (ca : Int32) (bo : Int32) (la : Int32) (hh : Int64) (x2 : Int32), lX6_mixProject_110 x1 n z asd od om ow ca bo la hh x2 = some (z', asd', od', om', ow', ca', bo', la', hh') → bw_I G A s.heap (bw_mW cy a z rows asd sm buf bm th od om ow ca bo la pl to rd hh) H locs → lv_has ls 4 [(0, .ref (a 0)), (1, .int x1), (2, .int x2)] → W p l e (bw_rm 9 210) s m [.ref (a 0), .int p1].toArray below meth c H locs 0 0 Q (F0 m 110 ls []) := by
    intro x1 n
    induction n with
    | zero => intro H locs ls z asd od om ow ca bo la hh x2 h; exact bw_none h
    | succ n ih =>
      intro H locs ls z asd od om ow ca bo la hh x2 h hI hl
      have h : bX6_mixProject_110  (lX6_mixProject_110 x1 n) x1 z asd od om ow ca bo la hh x2 = some (z', asd', od', om', ow', ca', bo', la', hh') := h
      unfold bX6_mixProject_110 at h
      refine lv_iload_n hx hb dX6_mixProject_110 rfl (lv_at hl 2 rfl) ?_
      refine lv_iconst (v := 5) hx hb dX6_mixProject_111 rfl ?_
      refine lv_icmp_ge (tgt := 134) hx hb dX6_mixProject_112 (by decide) (fun c_112 => ?_) (fun c_112 => ?_)
      · rw [if_pos c_112] at h
        refine lv_aload_n hx hb dX6_mixProject_134 rfl (lv_at hl 0 rfl) ?_
        refine lv_aload_n hx hb dX6_mixProject_135 rfl (lv_at hl 0 rfl) ?_
        refine lv_iload_n hx hb dX6_mixProject_136 rfl (lv_at hl 1 rfl) ?_
        refine lv_bipush (v := 60) hx hb dX6_mixProject_137 (by decide) ?_
        obtain ⟨r139, z_139, asd_139, od_139, om_139, ow_139, ca_139, bo_139, la_139, hc, h⟩ := bw_b9_e h
        refine bw_callV S hK hZ hI (mX6_ruleOf l G cy g a z rows asd sm buf bm th od om ow ca bo la pl to rd hh x1 60 r139 z_139 asd_139 od_139 om_139 ow_139 ca_139 bo_139 la_139 hc) Y_X6_ruleOf V_X6_ruleOf l_X6_217 ⟨(Nat.le_of_ble_eq_true rfl), (Nat.le_of_ble_eq_true rfl)⟩ (q0 := 0) rfl rfl rfl (ws' := (bw_mW cy a z_139 rows asd_139 sm buf bm th od_139 om_139 ow_139 ca_139 bo_139 la_139 pl to rd hh)) (bw_pS _) (bw_pS' _) rfl rfl hl.1 (rest := [.ref (a 0)]) (st1 := [.int r139, .ref (a 0)]) rfl rfl (Nat.le_of_ble_eq_true rfl) dX6_mixProject_139 ⟨Nat.le_refl _, Nat.le_refl _⟩ (fun H locs hI => ?_)
        refine lv_i2l hx hb dX6_mixProject_142 rfl ?_
        obtain ⟨hh_143, hc, h⟩ := bw_b1_e h
        refine bw_callV S hK hZ hI (mX6_mix l G cy g a z_139 rows asd_139 sm buf bm th od_139 om_139 ow_139 ca_139 bo_139 la_139 pl to rd hh (Int32.toInt64 r139) hh_143 hc) Y_X6_mix V_X6_mix l_X6_230 ⟨(Nat.le_of_ble_eq_true rfl), (Nat.le_of_ble_eq_true rfl)⟩ (q0 := 0) rfl rfl rfl (ws' := (bw_mW cy a z_139 rows asd_139 sm buf bm th od_139 om_139 ow_139 ca_139 bo_139 la_139 pl to rd hh_143)) (bw_pS _) (bw_pS' _) rfl rfl hl.1 (rest := []) (st1 := []) rfl rfl (Nat.le_of_ble_eq_true rfl) dX6_mixProject_143 ⟨Nat.le_refl _, Nat.le_refl _⟩ (fun H locs hI => ?_)
        refine lv_iconst (v := 0) hx hb dX6_mixProject_146 rfl ?_
        refine lv_istore_n (lv' := [(2, .int 0), (0, .ref (a 0)), (1, .int x1)]) hx hb dX6_mixProject_147 rfl hl (by decide) rfl (fun ls hl => ?_)
        exact l148 z_139 asd_139 od_139 om_139 ow_139 ca_139 bo_139 la_139 x1 bw_fu _ _ _ hh_143 0 h hI (lv_sub hl [1,2,0] rfl)
      rw [if_neg c_112] at h
      refine lv_aload_n hx hb dX6_mixProject_115 rfl (lv_at hl 0 rfl) ?_
      refine lv_aload_n hx hb dX6_mixProject_116 rfl (lv_at hl 0 rfl) ?_
      refine lv_iload_n hx hb dX6_mixProject_117 rfl (lv_at hl 1 rfl) ?_
      refine lv_bipush (v := 60) hx hb dX6_mixProject_118 (by decide) ?_
      refine lv_iload_n hx hb dX6_mixProject_120 rfl (lv_at hl 2 rfl) ?_
      obtain ⟨r121, z_121, asd_121, od_121, om_121, ow_121, ca_121, bo_121, la_121, hc, h⟩ := bw_b9_e h
      refine bw_callV S hK hZ hI (mX6_doneOf l G cy g a z rows asd sm buf bm th od om ow ca bo la pl to rd hh x1 60 x2 r121 z_121 asd_121 od_121 om_121 ow_121 ca_121 bo_121 la_121 hc) Y_X6_doneOf V_X6_doneOf l_X6_204 ⟨(Nat.le_of_ble_eq_true rfl), (Nat.le_of_ble_eq_true rfl)⟩ (q0 := 0) rfl rfl rfl (ws' := (bw_mW cy a z_121 rows asd_121 sm buf bm th od_121 om_121 ow_121 ca_121 bo_121 la_121 pl to rd hh)) (bw_pS _) (bw_pS' _) rfl rfl hl.1 (rest := [.ref (a 0)]) (st1 := [.int r121, .ref (a 0)]) rfl rfl (Nat.le_of_ble_eq_true rfl) dX6_mixProject_121 ⟨Nat.le_refl _, Nat.le_refl _⟩ (fun H locs hI => ?_)
      refine lv_i2l hx hb dX6_mixProject_124 rfl ?_
      obtain ⟨hh_125, hc, h⟩ := bw_b1_e h
      refine bw_callV S hK hZ hI (mX6_mix l G cy g a z_121 rows asd_121 sm buf bm th od_121 om_121 ow_121 ca_121 bo_121 la_121 pl to rd hh (Int32.toInt64 r121) hh_125 hc) Y_X6_mix V_X6_mix l_X6_230 ⟨(Nat.le_of_ble_eq_true rfl), (Nat.le_of_ble_eq_true rfl)⟩ (q0 := 0) rfl rfl rfl (ws' := (bw_mW cy a z_121 rows asd_121 sm buf bm th od_121 om_121 ow_121 ca_121 bo_121 la_121 pl to rd hh_125)) (bw_pS _) (bw_pS' _) rfl rfl hl.1 (rest := []) (st1 := []) rfl rfl (Nat.le_of_ble_eq_true rfl) dX6_mixProject_125 ⟨Nat.le_refl _, Nat.le_refl _⟩ (fun H locs hI => ?_)
      obtain ⟨x2_128, e_128⟩ : ∃ y : Int32, y = x2 + 1 := ⟨_, rfl⟩
      have h := bw_let_e h e_128
      refine lv_iinc (v := x2_128) (lv' := [(2, .int x2_128), (0, .ref (a 0)), (1, .int x1)]) hx hb dX6_mixProject_128 hl (k := 2) rfl (by rw [e_128]; rfl) (by decide) rfl (fun ls hl => ?_)
      clear e_128
      refine lv_goto (tgt := 110) hx hb dX6_mixProject_131 (by decide) ?_
      exact ih _ _ _ z_121 asd_121 od_121 om_121 ow_121 ca_121 bo_121 la_121 hh_125 x2_128 h hI (lv_sub hl [1,2,0] rfl)
  have l76 : ∀ (z : bw_A1) (asd : bw_A1) (ow : Int32) (ca : Int32) (bo : Int32) (la : Int32) (x1 : Int32) (n : Nat) (H : Heap) (locs : List Loc) (ls : Array Slot) (od : bw_A1) (om : Int32) (hh : Int64) (x2 : Int32), lX6_mixProject_76 z asd ow ca bo la x1 n od om hh x2 = some (z', asd', od', om', ow', ca', bo', la', hh') → bw_I G A s.heap (bw_mW cy a z rows asd sm buf bm th od om ow ca bo la pl to rd hh) H locs → lv_has ls 4 [(0, .ref (a 0)), (1, .int x1), (2, .int x2)] → W p l e (bw_rm 9 210) s m [.ref (a 0), .int p1].toArray below meth c H locs 0 0 Q (F0 m 76 ls []) := by
    intro z asd ow ca bo la x1 n
    induction n with
    | zero => intro H locs ls od om hh x2 h; exact bw_none h
    | succ n ih =>
      intro H locs ls od om hh x2 h hI hl
      have h : bX6_mixProject_76  (lX6_mixProject_76 z asd ow ca bo la x1 n) z asd ow ca bo la x1 od om hh x2 = some (z', asd', od', om', ow', ca', bo', la', hh') := h
      unfold bX6_mixProject_76 at h
      refine lv_iload_n hx hb dX6_mixProject_76 rfl (lv_at hl 2 rfl) ?_
      refine lv_iconst (v := 3) hx hb dX6_mixProject_77 rfl ?_
      refine lv_icmp_ge (tgt := 98) hx hb dX6_mixProject_78 (by decide) (fun c_78 => ?_) (fun c_78 => ?_)
      · rw [if_pos c_78] at h
        refine lv_aload_n hx hb dX6_mixProject_98 rfl (lv_at hl 0 rfl) ?_
        refine lv_aload_n hx hb dX6_mixProject_99 rfl (lv_at hl 0 rfl) ?_
        refine lv_iload_n hx hb dX6_mixProject_100 rfl (lv_at hl 1 rfl) ?_
        obtain ⟨r101, z_101, asd_101, od_101, om_101, ow_101, ca_101, bo_101, la_101, hc, h⟩ := bw_b9_e h
        refine bw_callV S hK hZ hI (mX6_bornBy l G cy g a z rows asd sm buf bm th od om ow ca bo la pl to rd hh x1 r101 z_101 asd_101 od_101 om_101 ow_101 ca_101 bo_101 la_101 hc) Y_X6_bornBy V_X6_bornBy l_X6_208 ⟨(Nat.le_of_ble_eq_true rfl), (Nat.le_of_ble_eq_true rfl)⟩ (q0 := 0) rfl rfl rfl (ws' := (bw_mW cy a z_101 rows asd_101 sm buf bm th od_101 om_101 ow_101 ca_101 bo_101 la_101 pl to rd hh)) (bw_pS _) (bw_pS' _) rfl rfl hl.1 (rest := [.ref (a 0)]) (st1 := [.int r101, .ref (a 0)]) rfl rfl (Nat.le_of_ble_eq_true rfl) dX6_mixProject_101 ⟨Nat.le_refl _, Nat.le_refl _⟩ (fun H locs hI => ?_)
        refine lv_i2l hx hb dX6_mixProject_104 rfl ?_
        obtain ⟨hh_105, hc, h⟩ := bw_b1_e h
        refine bw_callV S hK hZ hI (mX6_mix l G cy g a z_101 rows asd_101 sm buf bm th od_101 om_101 ow_101 ca_101 bo_101 la_101 pl to rd hh (Int32.toInt64 r101) hh_105 hc) Y_X6_mix V_X6_mix l_X6_230 ⟨(Nat.le_of_ble_eq_true rfl), (Nat.le_of_ble_eq_true rfl)⟩ (q0 := 0) rfl rfl rfl (ws' := (bw_mW cy a z_101 rows asd_101 sm buf bm th od_101 om_101 ow_101 ca_101 bo_101 la_101 pl to rd hh_105)) (bw_pS _) (bw_pS' _) rfl rfl hl.1 (rest := []) (st1 := []) rfl rfl (Nat.le_of_ble_eq_true rfl) dX6_mixProject_105 ⟨Nat.le_refl _, Nat.le_refl _⟩ (fun H locs hI => ?_)
        refine lv_iconst (v := 0) hx hb dX6_mixProject_108 rfl ?_
        refine lv_istore_n (lv' := [(2, .int 0), (0, .ref (a 0)), (1, .int x1)]) hx hb dX6_mixProject_109 rfl hl (by decide) rfl (fun ls hl => ?_)
        exact l110 x1 bw_fu _ _ _ z_101 asd_101 od_101 om_101 ow_101 ca_101 bo_101 la_101 hh_105 0 h hI (lv_sub hl [1,2,0] rfl)
      rw [if_neg c_78] at h
      refine lv_aload_n hx hb dX6_mixProject_81 rfl (lv_at hl 0 rfl) ?_
      refine lv_aload_n hx hb dX6_mixProject_82 rfl (lv_at hl 0 rfl) ?_
      refine lv_iload_n hx hb dX6_mixProject_83 rfl (lv_at hl 1 rfl) ?_
      refine lv_iload_n hx hb dX6_mixProject_84 rfl (lv_at hl 2 rfl) ?_
      obtain ⟨r85, od_85, om_85, hc, h⟩ := bw_b3_e h
      refine bw_callV S hK hZ hI (mX6_lenderOf l G cy g a z rows asd sm buf bm th od om ow ca bo la pl to rd hh x1 x2 r85 od_85 om_85 hc) Y_X6_lenderOf V_X6_lenderOf l_X6_186 ⟨(Nat.le_of_ble_eq_true rfl), (Nat.le_of_ble_eq_true rfl)⟩ (q0 := 0) rfl rfl rfl (ws' := (bw_mW cy a z rows asd sm buf bm th od_85 om_85 ow ca bo la pl to rd hh)) (bw_pS _) (bw_pS' _) rfl rfl hl.1 (rest := [.ref (a 0)]) (st1 := [.int r85, .ref (a 0)]) rfl rfl (Nat.le_of_ble_eq_true rfl) dX6_mixProject_85 ⟨Nat.le_refl _, Nat.le_refl _⟩ (fun H locs hI => ?_)
      refine lv_i2l hx hb dX6_mixProject_88 rfl ?_
      obtain ⟨hh_89, hc, h⟩ := bw_b1_e h
      refine bw_callV S hK hZ hI (mX6_mix l G cy g a z rows asd sm buf bm th od_85 om_85 ow ca bo la pl to rd hh (Int32.toInt64 r85) hh_89 hc) Y_X6_mix V_X6_mix l_X6_230 ⟨(Nat.le_of_ble_eq_true rfl), (Nat.le_of_ble_eq_true rfl)⟩ (q0 := 0) rfl rfl rfl (ws' := (bw_mW cy a z rows asd sm buf bm th od_85 om_85 ow ca bo la pl to rd hh_89)) (bw_pS _) (bw_pS' _) rfl rfl hl.1 (rest := []) (st1 := []) rfl rfl (Nat.le_of_ble_eq_true rfl) dX6_mixProject_89 ⟨Nat.le_refl _, Nat.le_refl _⟩ (fun H locs hI => ?_)
      obtain ⟨x2_92, e_92⟩ : ∃ y : Int32, y = x2 + 1 := ⟨_, rfl⟩
      have h := bw_let_e h e_92
      refine lv_iinc (v := x2_92) (lv' := [(2, .int x2_92), (0, .ref (a 0)), (1, .int x1)]) hx hb dX6_mixProject_92 hl (k := 2) rfl (by rw [e_92]; rfl) (by decide) rfl (fun ls hl => ?_)
      clear e_92
      refine lv_goto (tgt := 76) hx hb dX6_mixProject_95 (by decide) ?_
      exact ih _ _ _ od_85 om_85 hh_89 x2_92 h hI (lv_sub hl [1,2,0] rfl)
  have l44 : ∀ (z : bw_A1) (asd : bw_A1) (od : bw_A1) (om : Int32) (ow : Int32) (ca : Int32) (bo : Int32) (la : Int32) (x1 : Int32) (x2 : Int32) (k27 : Int64 → Int32 → Option (bw_A1 × bw_A1 × bw_A1 × Int32 × Int32 × Int32 × Int32 × Int32 × Int64)) (hk27 : ∀ (H : Heap) (locs : List Loc) (ls : Array Slot) (hh_ : Int64) (x2_ : Int32), k27 hh_ x2_ = some (z', asd', od', om', ow', ca', bo', la', hh') → bw_I G A s.heap (bw_mW cy a z rows asd sm buf bm th od om ow ca bo la pl to rd hh_) H locs → lv_has ls 4 [(0, .ref (a 0)), (1, .int x1), (2, .int x2_)] → W p l e (bw_rm 9 210) s m [.ref (a 0), .int p1].toArray below meth c H locs 0 0 Q (F0 m 27 ls [])) (n : Nat) (H : Heap) (locs : List Loc) (ls : Array Slot) (hh : Int64) (x3 : Int32), lX6_mixProject_44 k27 z asd od om ow ca bo la x1 x2 n hh x3 = some (z', asd', od', om', ow', ca', bo', la', hh') → bw_I G A s.heap (bw_mW cy a z rows asd sm buf bm th od om ow ca bo la pl to rd hh) H locs → lv_has ls 4 [(0, .ref (a 0)), (1, .int x1), (2, .int x2), (3, .int x3)] → W p l e (bw_rm 9 210) s m [.ref (a 0), .int p1].toArray below meth c H locs 0 0 Q (F0 m 44 ls []) := by
    intro z asd od om ow ca bo la x1 x2 k27 hk27 n
    induction n with
    | zero => intro H locs ls hh x3 h; exact bw_none h
    | succ n ih =>
      intro H locs ls hh x3 h hI hl
      have h : bX6_mixProject_44 k27 (lX6_mixProject_44 k27 z asd od om ow ca bo la x1 x2 n) z asd od om ow ca bo la x1 x2 hh x3 = some (z', asd', od', om', ow', ca', bo', la', hh') := h
      unfold bX6_mixProject_44 at h
      refine lv_iload_n hx hb dX6_mixProject_44 rfl (lv_at hl 3 rfl) ?_
      refine lv_bipush (v := 6) hx hb dX6_mixProject_45 (by decide) ?_
      refine lv_icmp_ge (tgt := 68) hx hb dX6_mixProject_47 (by decide) (fun c_47 => ?_) (fun c_47 => ?_)
      · rw [if_pos c_47] at h
        obtain ⟨x2_68, e_68⟩ : ∃ y : Int32, y = x2 + 1 := ⟨_, rfl⟩
        have h := bw_let_e h e_68
        refine lv_iinc (v := x2_68) (lv' := [(2, .int x2_68), (0, .ref (a 0)), (1, .int x1), (3, .int x3)]) hx hb dX6_mixProject_68 hl (k := 2) rfl (by rw [e_68]; rfl) (by decide) rfl (fun ls hl => ?_)
        clear e_68
        refine lv_goto (tgt := 27) hx hb dX6_mixProject_71 (by decide) ?_
        exact hk27 _ _ _ hh x2_68 h hI (lv_sub hl [1,2,0] rfl)
      rw [if_neg c_47] at h
      refine lv_aload_n hx hb dX6_mixProject_50 rfl (lv_at hl 0 rfl) ?_
      refine lv_aload_n hx hb dX6_mixProject_51 rfl (lv_at hl 0 rfl) ?_
      refine lv_iload_n hx hb dX6_mixProject_52 rfl (lv_at hl 1 rfl) ?_
      refine lv_iload_n hx hb dX6_mixProject_53 rfl (lv_at hl 2 rfl) ?_
      refine lv_iload_n hx hb dX6_mixProject_54 rfl (lv_at hl 3 rfl) ?_
      obtain ⟨r55, hc, h⟩ := bw_b1_e h
      refine bw_callV S hK hZ hI (mX6_taskOf l G cy g a z rows asd sm buf bm th od om ow ca bo la pl to rd hh x1 x2 x3 r55 hc) Y_X6_taskOf V_X6_taskOf l_X6_182 ⟨(Nat.le_of_ble_eq_true rfl), (Nat.le_of_ble_eq_true rfl)⟩ (q0 := 0) rfl rfl rfl (ws' := (bw_mW cy a z rows asd sm buf bm th od om ow ca bo la pl to rd hh)) (bw_pS _) (bw_pS' _) rfl rfl hl.1 (rest := [.ref (a 0)]) (st1 := [.int r55, .ref (a 0)]) rfl rfl (Nat.le_of_ble_eq_true rfl) dX6_mixProject_55 ⟨Nat.le_refl _, Nat.le_refl _⟩ (fun H locs hI => ?_)
      refine lv_i2l hx hb dX6_mixProject_58 rfl ?_
      obtain ⟨hh_59, hc, h⟩ := bw_b1_e h
      refine bw_callV S hK hZ hI (mX6_mix l G cy g a z rows asd sm buf bm th od om ow ca bo la pl to rd hh (Int32.toInt64 r55) hh_59 hc) Y_X6_mix V_X6_mix l_X6_230 ⟨(Nat.le_of_ble_eq_true rfl), (Nat.le_of_ble_eq_true rfl)⟩ (q0 := 0) rfl rfl rfl (ws' := (bw_mW cy a z rows asd sm buf bm th od om ow ca bo la pl to rd hh_59)) (bw_pS _) (bw_pS' _) rfl rfl hl.1 (rest := []) (st1 := []) rfl rfl (Nat.le_of_ble_eq_true rfl) dX6_mixProject_59 ⟨Nat.le_refl _, Nat.le_refl _⟩ (fun H locs hI => ?_)
      obtain ⟨x3_62, e_62⟩ : ∃ y : Int32, y = x3 + 1 := ⟨_, rfl⟩
      have h := bw_let_e h e_62
      refine lv_iinc (v := x3_62) (lv' := [(3, .int x3_62), (0, .ref (a 0)), (1, .int x1), (2, .int x2)]) hx hb dX6_mixProject_62 hl (k := 3) rfl (by rw [e_62]; rfl) (by decide) rfl (fun ls hl => ?_)
      clear e_62
      refine lv_goto (tgt := 44) hx hb dX6_mixProject_65 (by decide) ?_
      exact ih _ _ _ hh_59 x3_62 h hI (lv_sub hl [1,2,3,0] rfl)
  have l27 : ∀ (z : bw_A1) (asd : bw_A1) (od : bw_A1) (om : Int32) (ow : Int32) (ca : Int32) (bo : Int32) (la : Int32) (x1 : Int32) (n : Nat) (H : Heap) (locs : List Loc) (ls : Array Slot) (hh : Int64) (x2 : Int32), lX6_mixProject_27 z asd od om ow ca bo la x1 n hh x2 = some (z', asd', od', om', ow', ca', bo', la', hh') → bw_I G A s.heap (bw_mW cy a z rows asd sm buf bm th od om ow ca bo la pl to rd hh) H locs → lv_has ls 4 [(0, .ref (a 0)), (1, .int x1), (2, .int x2)] → W p l e (bw_rm 9 210) s m [.ref (a 0), .int p1].toArray below meth c H locs 0 0 Q (F0 m 27 ls []) := by
    intro z asd od om ow ca bo la x1 n
    induction n with
    | zero => intro H locs ls hh x2 h; exact bw_none h
    | succ n ih =>
      intro H locs ls hh x2 h hI hl
      have h : bX6_mixProject_27  (lX6_mixProject_27 z asd od om ow ca bo la x1 n) z asd od om ow ca bo la x1 hh x2 = some (z', asd', od', om', ow', ca', bo', la', hh') := h
      unfold bX6_mixProject_27 at h
      refine lv_iload_n hx hb dX6_mixProject_27 rfl (lv_at hl 2 rfl) ?_
      refine lv_aload_n hx hb dX6_mixProject_28 rfl (lv_at hl 0 rfl) ?_
      refine bw_get S hK hI 0 0 rfl rfl (by decide) i_X6 f_X6_7 rfl dX6_mixProject_29 ?_
      refine lv_iload_n hx hb dX6_mixProject_32 rfl (lv_at hl 1 rfl) ?_
      obtain ⟨r33, hc, h⟩ := bw_b1_e h
      refine bw_callP S hK hZ hI (mX6_at l G cy g x1 r33 hc) Y_X6_at V_X6_at l_X6_39 ⟨(Nat.le_of_ble_eq_true rfl), (Nat.le_of_ble_eq_true rfl)⟩ (rest := [.ref (a 1), .int x2]) (st1 := [.int r33, .ref (a 1), .int x2]) rfl hl.1 rfl rfl (Nat.le_of_ble_eq_true rfl) dX6_mixProject_33 ⟨Nat.le_refl _, Nat.le_refl _⟩ (fun H locs hI => ?_)
      refine lv_iconst (v := 5) hx hb dX6_mixProject_36 rfl ?_
      refine lv_iadd hx hb dX6_mixProject_37 ?_
      obtain ⟨v38, hv, h⟩ := bw_b1_e h
      refine bw_iald hx hb hK hI 1 hv rfl dX6_mixProject_38 ?_
      refine lv_icmp_ge (tgt := 74) hx hb dX6_mixProject_39 (by decide) (fun c_39 => ?_) (fun c_39 => ?_)
      · rw [if_pos c_39] at h
        refine lv_iconst (v := 0) hx hb dX6_mixProject_74 rfl ?_
        refine lv_istore_n (lv' := [(2, .int 0), (0, .ref (a 0)), (1, .int x1)]) hx hb dX6_mixProject_75 rfl hl (by decide) rfl (fun ls hl => ?_)
        exact l76 z asd ow ca bo la x1 bw_fu _ _ _ od om hh 0 h hI (lv_sub hl [1,2,0] rfl)
      rw [if_neg c_39] at h
      refine lv_iconst (v := 0) hx hb dX6_mixProject_42 rfl ?_
      refine lv_istore_n (lv' := [(3, .int 0), (0, .ref (a 0)), (1, .int x1), (2, .int x2)]) hx hb dX6_mixProject_43 rfl hl (by decide) rfl (fun ls hl => ?_)
      exact l44 z asd od om ow ca bo la x1 x2 (lX6_mixProject_27 z asd od om ow ca bo la x1 n) ih bw_fu _ _ _ hh 0 h hI (lv_sub hl [1,2,3,0] rfl)
  have l2 : ∀ (z : bw_A1) (asd : bw_A1) (od : bw_A1) (om : Int32) (ow : Int32) (ca : Int32) (bo : Int32) (la : Int32) (x1 : Int32) (n : Nat) (H : Heap) (locs : List Loc) (ls : Array Slot) (hh : Int64) (x2 : Int32), lX6_mixProject_2 z asd od om ow ca bo la x1 n hh x2 = some (z', asd', od', om', ow', ca', bo', la', hh') → bw_I G A s.heap (bw_mW cy a z rows asd sm buf bm th od om ow ca bo la pl to rd hh) H locs → lv_has ls 4 [(0, .ref (a 0)), (1, .int x1), (2, .int x2)] → W p l e (bw_rm 9 210) s m [.ref (a 0), .int p1].toArray below meth c H locs 0 0 Q (F0 m 2 ls []) := by
    intro z asd od om ow ca bo la x1 n
    induction n with
    | zero => intro H locs ls hh x2 h; exact bw_none h
    | succ n ih =>
      intro H locs ls hh x2 h hI hl
      have h : bX6_mixProject_2  (lX6_mixProject_2 z asd od om ow ca bo la x1 n) z asd od om ow ca bo la x1 hh x2 = some (z', asd', od', om', ow', ca', bo', la', hh') := h
      unfold bX6_mixProject_2 at h
      refine lv_iload_n hx hb dX6_mixProject_2 rfl (lv_at hl 2 rfl) ?_
      refine lv_bipush (v := 15) hx hb dX6_mixProject_3 (by decide) ?_
      refine lv_icmp_ge (tgt := 25) hx hb dX6_mixProject_5 (by decide) (fun c_5 => ?_) (fun c_5 => ?_)
      · rw [if_pos c_5] at h
        refine lv_iconst (v := 0) hx hb dX6_mixProject_25 rfl ?_
        refine lv_istore_n (lv' := [(2, .int 0), (0, .ref (a 0)), (1, .int x1)]) hx hb dX6_mixProject_26 rfl hl (by decide) rfl (fun ls hl => ?_)
        exact l27 z asd od om ow ca bo la x1 bw_fu _ _ _ hh 0 h hI (lv_sub hl [1,2,0] rfl)
      rw [if_neg c_5] at h
      refine lv_aload_n hx hb dX6_mixProject_8 rfl (lv_at hl 0 rfl) ?_
      refine lv_aload_n hx hb dX6_mixProject_9 rfl (lv_at hl 0 rfl) ?_
      refine lv_iload_n hx hb dX6_mixProject_10 rfl (lv_at hl 1 rfl) ?_
      refine lv_iload_n hx hb dX6_mixProject_11 rfl (lv_at hl 2 rfl) ?_
      obtain ⟨r12, hc, h⟩ := bw_b1_e h
      refine bw_callV S hK hZ hI (mX6_projectOf l G cy g a z rows asd sm buf bm th od om ow ca bo la pl to rd hh x1 x2 r12 hc) Y_X6_projectOf V_X6_projectOf l_X6_179 ⟨(Nat.le_of_ble_eq_true rfl), (Nat.le_of_ble_eq_true rfl)⟩ (q0 := 0) rfl rfl rfl (ws' := (bw_mW cy a z rows asd sm buf bm th od om ow ca bo la pl to rd hh)) (bw_pS _) (bw_pS' _) rfl rfl hl.1 (rest := [.ref (a 0)]) (st1 := [.int r12, .ref (a 0)]) rfl rfl (Nat.le_of_ble_eq_true rfl) dX6_mixProject_12 ⟨Nat.le_refl _, Nat.le_refl _⟩ (fun H locs hI => ?_)
      refine lv_i2l hx hb dX6_mixProject_15 rfl ?_
      obtain ⟨hh_16, hc, h⟩ := bw_b1_e h
      refine bw_callV S hK hZ hI (mX6_mix l G cy g a z rows asd sm buf bm th od om ow ca bo la pl to rd hh (Int32.toInt64 r12) hh_16 hc) Y_X6_mix V_X6_mix l_X6_230 ⟨(Nat.le_of_ble_eq_true rfl), (Nat.le_of_ble_eq_true rfl)⟩ (q0 := 0) rfl rfl rfl (ws' := (bw_mW cy a z rows asd sm buf bm th od om ow ca bo la pl to rd hh_16)) (bw_pS _) (bw_pS' _) rfl rfl hl.1 (rest := []) (st1 := []) rfl rfl (Nat.le_of_ble_eq_true rfl) dX6_mixProject_16 ⟨Nat.le_refl _, Nat.le_refl _⟩ (fun H locs hI => ?_)
      obtain ⟨x2_19, e_19⟩ : ∃ y : Int32, y = x2 + 1 := ⟨_, rfl⟩
      have h := bw_let_e h e_19
      refine lv_iinc (v := x2_19) (lv' := [(2, .int x2_19), (0, .ref (a 0)), (1, .int x1)]) hx hb dX6_mixProject_19 hl (k := 2) rfl (by rw [e_19]; rfl) (by decide) rfl (fun ls hl => ?_)
      clear e_19
      refine lv_goto (tgt := 2) hx hb dX6_mixProject_22 (by decide) ?_
      exact ih _ _ _ hh_16 x2_19 h hI (lv_sub hl [1,2,0] rfl)
  unfold fX6_mixProject at h
  refine lv_iconst (v := 0) hx hb dX6_mixProject_0 rfl ?_
  refine lv_istore_n (lv' := [(2, .int 0), (0, .ref (a 0)), (1, .int p1)]) hx hb dX6_mixProject_1 rfl hl (by decide) rfl (fun ls hl => ?_)
  exact l2 z asd od om ow ca bo la p1 bw_fu _ _ _ hh 0 h hI (lv_sub hl [1,2,0] rfl)
