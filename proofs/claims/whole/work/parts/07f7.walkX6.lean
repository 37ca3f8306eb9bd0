set_option maxHeartbeats 4000000 in
set_option maxRecDepth 100000 in
theorem mX6_delays (l : Launch) (G : va_G) (cy : Nat → ClassId) (g : Nat) (a : Nat → Nat) (z : bw_A1) (rows : bw_A1) (asd : bw_A1) (sm : Int32) (buf : bw_A1) (bm : Int32) (th : Int32) (od : bw_A1) (om : Int32) (ow : Int32) (ca : Int32) (bo : Int32) (la : Int32) (pl : Int32) (to : Int32) (rd : bw_A1) (hh : Int64) (r : Int32) (h : fX6_delays z = some r) : bw_M l yX6_delays cX6_delays 5 (some .int) 2 44 G cy g [.ref (a 0)] (bw_mW cy a z rows asd sm buf bm th od om ow ca bo la pl to rd hh) (some (.int r)) (bw_mW cy a z rows asd sm buf bm th od om ow ca bo la pl to rd hh) := by
  refine bw_ofW (by decide +kernel) RX6 rfl (Nat.le_of_ble_eq_true rfl) ?_
  intro p e s m below meth c ls S hr hlocks hK hZ hI hl
  have hx := S.1
  have hb := S.2.1
  have hown := S.2.2.2.1
  have hts := S.2.2.2.2
  generalize va_A _ s.heap.size = A at hI hZ ⊢
  generalize hQ : MQ below _ _ s 0 0 A = Q
  have hl : lv_has ls 5 [(0, .ref (a 0))] := hl
  have j61 : ∀ (x2 : Int32) (x3 : Int32) (s0 : Int32) (s1 : Int32) (k4 : Int32 → Int32 → Option Int32) (hk4 : ∀ (H : Heap) (locs : List Loc) (ls : Array Slot) (x1_ : Int32) (x2_ : Int32), k4 x1_ x2_ = some r → bw_I G A s.heap (bw_mW cy a z rows asd sm buf bm th od om ow ca bo la pl to rd hh) H locs → lv_has ls 5 [(0, .ref (a 0)), (1, .int x1_), (2, .int x2_)] → W p l e (bw_rm 2 44) s m [.ref (a 0)].toArray below meth c H locs 0 0 Q (F0 m 4 ls [])) (k16 : Int32 → Int32 → Option Int32) (hk16 : ∀ (H : Heap) (locs : List Loc) (ls : Array Slot) (x1_ : Int32) (x3_ : Int32), k16 x1_ x3_ = some r → bw_I G A s.heap (bw_mW cy a z rows asd sm buf bm th od om ow ca bo la pl to rd hh) H locs → lv_has ls 5 [(0, .ref (a 0)), (1, .int x1_), (2, .int x2), (3, .int x3_)] → W p l e (bw_rm 2 44) s m [.ref (a 0)].toArray below meth c H locs 0 0 Q (F0 m 16 ls [])) (H : Heap) (locs : List Loc) (ls : Array Slot), jX6_delays_61 k4 k16 z x2 x3 s0 s1 = some r → bw_I G A s.heap (bw_mW cy a z rows asd sm buf bm th od om ow ca bo la pl to rd hh) H locs → lv_has ls 5 [(0, .ref (a 0)), (2, .int x2), (3, .int x3)] → W p l e (bw_rm 2 44) s m [.ref (a 0)].toArray below meth c H locs 0 0 Q (F0 m 61 ls [.int s0, .int s1]) := by
    intro x2 x3 s0 s1 k4 hk4 k16 hk16 H locs ls h hI hl
    unfold jX6_delays_61 at h
    refine lv_iadd hx hb dX6_delays_61 ?_
    refine lv_topi (fun x1_62 e_62 => ?_)
    have h := bw_let_e h e_62
    clear e_62
    refine lv_istore_n (lv' := [(1, .int x1_62), (0, .ref (a 0)), (2, .int x2), (3, .int x3)]) hx hb dX6_delays_62 rfl hl (by decide) rfl (fun ls hl => ?_)
    obtain ⟨x3_63, e_63⟩ : ∃ y : Int32, y = x3 + 1 := ⟨_, rfl⟩
    have h := bw_let_e h e_63
    refine lv_iinc (v := x3_63) (lv' := [(3, .int x3_63), (1, .int x1_62), (0, .ref (a 0)), (2, .int x2)]) hx hb dX6_delays_63 hl (k := 3) rfl (by rw [e_63]; rfl) (by decide) rfl (fun ls hl => ?_)
    clear e_63
    refine lv_goto (tgt := 16) hx hb dX6_delays_66 (by decide) ?_
    exact hk16 _ _ _ x1_62 x3_63 h hI (lv_sub hl [2,1,3,0] rfl)
  have l16 : ∀ (x2 : Int32) (k4 : Int32 → Int32 → Option Int32) (hk4 : ∀ (H : Heap) (locs : List Loc) (ls : Array Slot) (x1_ : Int32) (x2_ : Int32), k4 x1_ x2_ = some r → bw_I G A s.heap (bw_mW cy a z rows asd sm buf bm th od om ow ca bo la pl to rd hh) H locs → lv_has ls 5 [(0, .ref (a 0)), (1, .int x1_), (2, .int x2_)] → W p l e (bw_rm 2 44) s m [.ref (a 0)].toArray below meth c H locs 0 0 Q (F0 m 4 ls [])) (n : Nat) (H : Heap) (locs : List Loc) (ls : Array Slot) (x1 : Int32) (x3 : Int32), lX6_delays_16 k4 z x2 n x1 x3 = some r → bw_I G A s.heap (bw_mW cy a z rows asd sm buf bm th od om ow ca bo la pl to rd hh) H locs → lv_has ls 5 [(0, .ref (a 0)), (1, .int x1), (2, .int x2), (3, .int x3)] → W p l e (bw_rm 2 44) s m [.ref (a 0)].toArray below meth c H locs 0 0 Q (F0 m 16 ls []) := by
    intro x2 k4 hk4 n
    induction n with
    | zero => intro H locs ls x1 x3 h; exact bw_none h
    | succ n ih =>
      intro H locs ls x1 x3 h hI hl
      have h : bX6_delays_16 k4 (lX6_delays_16 k4 z x2 n) z x2 x1 x3 = some r := h
      unfold bX6_delays_16 at h
      refine lv_iload_n hx hb dX6_delays_16 rfl (lv_at hl 3 rfl) ?_
      refine lv_aload_n hx hb dX6_delays_17 rfl (lv_at hl 0 rfl) ?_
      refine bw_get S hK hI 0 0 rfl rfl (by decide) i_X6 f_X6_7 rfl dX6_delays_18 ?_
      refine lv_iload_n hx hb dX6_delays_21 rfl (lv_at hl 2 rfl) ?_
      obtain ⟨r22, hc, h⟩ := bw_b1_e h
      refine bw_callP S hK hZ hI (mX6_at l G cy g x2 r22 hc) Y_X6_at V_X6_at l_X6_39 ⟨(Nat.le_of_ble_eq_true rfl), (Nat.le_of_ble_eq_true rfl)⟩ (rest := [.ref (a 1), .int x3]) (st1 := [.int r22, .ref (a 1), .int x3]) rfl hl.1 rfl rfl (Nat.le_of_ble_eq_true rfl) dX6_delays_22 ⟨(Nat.le_of_ble_eq_true rfl), (Nat.le_of_ble_eq_true rfl)⟩ (fun H locs hI => ?_)
      refine lv_bipush (v := 6) hx hb dX6_delays_25 (by decide) ?_
      refine lv_iadd hx hb dX6_delays_27 ?_
      obtain ⟨v28, hv, h⟩ := bw_b1_e h
      refine bw_iald hx hb hK hI 1 hv rfl dX6_delays_28 ?_
      refine lv_icmp_ge (tgt := 69) hx hb dX6_delays_29 (by decide) (fun c_29 => ?_) (fun c_29 => ?_)
      · rw [if_pos c_29] at h
        obtain ⟨x2_69, e_69⟩ : ∃ y : Int32, y = x2 + 1 := ⟨_, rfl⟩
        have h := bw_let_e h e_69
        refine lv_iinc (v := x2_69) (lv' := [(2, .int x2_69), (0, .ref (a 0)), (1, .int x1), (3, .int x3)]) hx hb dX6_delays_69 hl (k := 2) rfl (by rw [e_69]; rfl) (by decide) rfl (fun ls hl => ?_)
        clear e_69
        refine lv_goto (tgt := 4) hx hb dX6_delays_72 (by decide) ?_
        exact hk4 _ _ _ x1 x2_69 h hI (lv_sub hl [1,2,0] rfl)
      rw [if_neg c_29] at h
      refine lv_aload_n hx hb dX6_delays_32 rfl (lv_at hl 0 rfl) ?_
      refine lv_iload_n hx hb dX6_delays_33 rfl (lv_at hl 2 rfl) ?_
      refine lv_iload_n hx hb dX6_delays_34 rfl (lv_at hl 3 rfl) ?_
      refine lv_iconst (v := 1) hx hb dX6_delays_35 rfl ?_
      obtain ⟨r36, hc, h⟩ := bw_b1_e h
      refine bw_callV S hK hZ hI (mX6_taskOf l G cy g a z rows asd sm buf bm th od om ow ca bo la pl to rd hh x2 x3 1 r36 hc) Y_X6_taskOf V_X6_taskOf l_X6_182 ⟨(Nat.le_of_ble_eq_true rfl), (Nat.le_of_ble_eq_true rfl)⟩ (q0 := 0) rfl rfl rfl (ws' := (bw_mW cy a z rows asd sm buf bm th od om ow ca bo la pl to rd hh)) (bw_pS _) (bw_pS' _) rfl rfl hl.1 (rest := []) (st1 := [.int r36]) rfl rfl (Nat.le_of_ble_eq_true rfl) dX6_delays_36 ⟨(Nat.le_of_ble_eq_true rfl), (Nat.le_of_ble_eq_true rfl)⟩ (fun H locs hI => ?_)
      refine lv_aload_n hx hb dX6_delays_39 rfl (lv_at hl 0 rfl) ?_
      refine lv_iload_n hx hb dX6_delays_40 rfl (lv_at hl 2 rfl) ?_
      refine lv_iload_n hx hb dX6_delays_41 rfl (lv_at hl 3 rfl) ?_
      refine lv_iconst (v := 0) hx hb dX6_delays_42 rfl ?_
      obtain ⟨r43, hc, h⟩ := bw_b1_e h
      refine bw_callV S hK hZ hI (mX6_taskOf l G cy g a z rows asd sm buf bm th od om ow ca bo la pl to rd hh x2 x3 0 r43 hc) Y_X6_taskOf V_X6_taskOf l_X6_182 ⟨(Nat.le_of_ble_eq_true rfl), (Nat.le_of_ble_eq_true rfl)⟩ (q0 := 0) rfl rfl rfl (ws' := (bw_mW cy a z rows asd sm buf bm th od om ow ca bo la pl to rd hh)) (bw_pS _) (bw_pS' _) rfl rfl hl.1 (rest := [.int r36]) (st1 := [.int r43, .int r36]) rfl rfl (Nat.le_of_ble_eq_true rfl) dX6_delays_43 ⟨(Nat.le_of_ble_eq_true rfl), (Nat.le_of_ble_eq_true rfl)⟩ (fun H locs hI => ?_)
      refine lv_isub hx hb dX6_delays_46 ?_
      refine lv_topi (fun x4_47 e_47 => ?_)
      have h := bw_let_e h e_47
      clear e_47
      refine lv_istore (lv' := [(4, .int x4_47), (0, .ref (a 0)), (1, .int x1), (2, .int x2), (3, .int x3)]) hx hb dX6_delays_47 hl (by decide) rfl (fun ls hl => ?_)
      refine lv_iload_n hx hb dX6_delays_49 rfl (lv_at hl 2 rfl) ?_
      refine lv_iload hx hb dX6_delays_50 (lv_at hl 0 rfl) ?_
      refine lv_if_le (tgt := 60) hx hb dX6_delays_52 (by decide) (fun c_52 => ?_) (fun c_52 => ?_)
      · rw [if_pos c_52] at h
        refine lv_iconst (v := 0) hx hb dX6_delays_60 rfl ?_
        exact j61 x2 x3 0 x1 k4 hk4 (lX6_delays_16 k4 z x2 n) ih _ _ _ h hI (lv_sub hl [1,3,4] rfl)
      rw [if_neg c_52] at h
      refine lv_iload hx hb dX6_delays_55 (lv_at hl 0 rfl) ?_
      refine lv_goto (tgt := 61) hx hb dX6_delays_57 (by decide) ?_
      exact j61 x2 x3 x4_47 x1 k4 hk4 (lX6_delays_16 k4 z x2 n) ih _ _ _ h hI (lv_sub hl [1,3,4] rfl)
  have l4 : ∀  (n : Nat) (H : Heap) (locs : List Loc) (ls : Array Slot) (x1 : Int32) (x2 : Int32), lX6_delays_4 z n x1 x2 = some r → bw_I G A s.heap (bw_mW cy a z rows asd sm buf bm th od om ow ca bo la pl to rd hh) H locs → lv_has ls 5 [(0, .ref (a 0)), (1, .int x1), (2, .int x2)] → W p l e (bw_rm 2 44) s m [.ref (a 0)].toArray below meth c H locs 0 0 Q (F0 m 4 ls []) := by
    intro  n
    induction n with
    | zero => intro H locs ls x1 x2 h; exact bw_none h
    | succ n ih =>
      intro H locs ls x1 x2 h hI hl
      have h : bX6_delays_4  (lX6_delays_4 z n) z x1 x2 = some r := h
      unfold bX6_delays_4 at h
      refine lv_iload_n hx hb dX6_delays_4 rfl (lv_at hl 2 rfl) ?_
      refine lv_aload_n hx hb dX6_delays_5 rfl (lv_at hl 0 rfl) ?_
      refine bw_get S hK hI 0 0 rfl rfl (by decide) i_X6 f_X6_7 rfl dX6_delays_6 ?_
      refine lv_iconst (v := 0) hx hb dX6_delays_9 rfl ?_
      obtain ⟨v10, hv, h⟩ := bw_b1_e h
      refine bw_iald hx hb hK hI 1 hv rfl dX6_delays_10 ?_
      refine lv_icmp_ge (tgt := 75) hx hb dX6_delays_11 (by decide) (fun c_11 => ?_) (fun c_11 => ?_)
      · rw [if_pos c_11] at h
        refine lv_iload_n hx hb dX6_delays_75 rfl (lv_at hl 1 rfl) ?_
        exact bw_iretP S hr hlocks h hI rfl dX6_delays_76 hQ
      rw [if_neg c_11] at h
      refine lv_iconst (v := 0) hx hb dX6_delays_14 rfl ?_
      refine lv_istore_n (lv' := [(3, .int 0), (0, .ref (a 0)), (1, .int x1), (2, .int x2)]) hx hb dX6_delays_15 rfl hl (by decide) rfl (fun ls hl => ?_)
      exact l16 x2 (lX6_delays_4 z n) ih bw_fu _ _ _ x1 0 h hI (lv_sub hl [1,2,3,0] rfl)
  unfold fX6_delays at h
  refine lv_iconst (v := 0) hx hb dX6_delays_0 rfl ?_
  refine lv_istore_n (lv' := [(1, .int 0), (0, .ref (a 0))]) hx hb dX6_delays_1 rfl hl (by decide) rfl (fun ls hl => ?_)
  refine lv_iconst (v := 0) hx hb dX6_delays_2 rfl ?_
  refine lv_istore_n (lv' := [(2, .int 0), (1, .int 0), (0, .ref (a 0))]) hx hb dX6_delays_3 rfl hl (by decide) rfl (fun ls hl => ?_)
  exact l4  bw_fu _ _ _ 0 0 h hI (lv_sub hl [2,1,0] rfl)
set_option maxHeartbeats 4000000 in
set_option maxRecDepth 100000 in
theorem mX6_counted (l : Launch) (G : va_G) (cy : Nat → ClassId) (g : Nat) (a : Nat → Nat) (z : bw_A1) (rows : bw_A1) (asd : bw_A1) (sm : Int32) (buf : bw_A1) (bm : Int32) (th : Int32) (od : bw_A1) (om : Int32) (ow : Int32) (ca : Int32) (bo : Int32) (la : Int32) (pl : Int32) (to : Int32) (rd : bw_A1) (hh : Int64) (p1 : Int32) (r : Int32) (h : fX6_counted z sm p1 = some r) : bw_M l yX6_counted cX6_counted 2 (some .int) 5 110 G cy g [.ref (a 0), .int p1] (bw_mW cy a z rows asd sm buf bm th od om ow ca bo la pl to rd hh) (some (.int r)) (bw_mW cy a z rows asd sm buf bm th od om ow ca bo la pl to rd hh) := by
  refine bw_ofW (by decide +kernel) RX6 rfl (Nat.le_of_ble_eq_true rfl) ?_
  intro p e s m below meth c ls S hr hlocks hK hZ hI hl
  have hx := S.1
  have hb := S.2.1
  have hown := S.2.2.2.1
  have hts := S.2.2.2.2
  generalize va_A _ s.heap.size = A at hI hZ ⊢
  generalize hQ : MQ below _ _ s 0 0 A = Q
  have hl : lv_has ls 2 [(0, .ref (a 0)), (1, .int p1)] := hl
  unfold fX6_counted at h
  refine lv_iload_n hx hb dX6_counted_0 rfl (lv_at hl 1 rfl) ?_
  by_cases c_1_0 : p1 = 0
  · rw [if_pos c_1_0] at h
    refine lv_tableIn (tgt := 52) hx hb dX6_counted_1 (by rw [c_1_0]; decide) (by rw [c_1_0]; decide) (by rw [c_1_0]; rfl) (by decide) ?_
    refine lv_aload_n hx hb dX6_counted_52 rfl (lv_at hl 0 rfl) ?_
    refine bw_get S hK hI 0 0 rfl rfl (by decide) i_X6 f_X6_7 rfl dX6_counted_53 ?_
    refine lv_iconst (v := 0) hx hb dX6_counted_56 rfl ?_
    obtain ⟨v57, hv, h⟩ := bw_b1_e h
    refine bw_iald hx hb hK hI 1 hv rfl dX6_counted_57 ?_
    exact bw_iretP S hr hlocks h hI rfl dX6_counted_58 hQ
  rw [if_neg c_1_0] at h
  by_cases c_1_1 : p1 = 1
  · rw [if_pos c_1_1] at h
    refine lv_tableIn (tgt := 59) hx hb dX6_counted_1 (by rw [c_1_1]; decide) (by rw [c_1_1]; decide) (by rw [c_1_1]; rfl) (by decide) ?_
    refine lv_aload_n hx hb dX6_counted_59 rfl (lv_at hl 0 rfl) ?_
    refine lv_bipush (v := 9) hx hb dX6_counted_60 (by decide) ?_
    obtain ⟨r62, hc, h⟩ := bw_b1_e h
    refine bw_callV S hK hZ hI (mX6_ofProjects l G cy g a z rows asd sm buf bm th od om ow ca bo la pl to rd hh 9 r62 hc) Y_X6_ofProjects V_X6_ofProjects l_X6_189 ⟨(Nat.le_of_ble_eq_true rfl), (Nat.le_of_ble_eq_true rfl)⟩ (q0 := 0) rfl rfl rfl (ws' := (bw_mW cy a z rows asd sm buf bm th od om ow ca bo la pl to rd hh)) (bw_pS _) (bw_pS' _) rfl rfl hl.1 (rest := []) (st1 := [.int r62]) rfl rfl (Nat.le_of_ble_eq_true rfl) dX6_counted_62 ⟨(Nat.le_of_ble_eq_true rfl), (Nat.le_of_ble_eq_true rfl)⟩ (fun H locs hI => ?_)
    exact bw_iretP S hr hlocks h hI rfl dX6_counted_65 hQ
  rw [if_neg c_1_1] at h
  by_cases c_1_2 : p1 = 2
  · rw [if_pos c_1_2] at h
    refine lv_tableIn (tgt := 66) hx hb dX6_counted_1 (by rw [c_1_2]; decide) (by rw [c_1_2]; decide) (by rw [c_1_2]; rfl) (by decide) ?_
    refine lv_aload_n hx hb dX6_counted_66 rfl (lv_at hl 0 rfl) ?_
    refine bw_get S hK hI 0 0 rfl rfl (by decide) i_X6 f_X6_7 rfl dX6_counted_67 ?_
    refine lv_iconst (v := 1) hx hb dX6_counted_70 rfl ?_
    obtain ⟨v71, hv, h⟩ := bw_b1_e h
    refine bw_iald hx hb hK hI 1 hv rfl dX6_counted_71 ?_
    exact bw_iretP S hr hlocks h hI rfl dX6_counted_72 hQ
  rw [if_neg c_1_2] at h
  by_cases c_1_3 : p1 = 3
  · rw [if_pos c_1_3] at h
    refine lv_tableIn (tgt := 73) hx hb dX6_counted_1 (by rw [c_1_3]; decide) (by rw [c_1_3]; decide) (by rw [c_1_3]; rfl) (by decide) ?_
    refine lv_aload_n hx hb dX6_counted_73 rfl (lv_at hl 0 rfl) ?_
    refine lv_iconst (v := 4) hx hb dX6_counted_74 rfl ?_
    obtain ⟨r75, hc, h⟩ := bw_b1_e h
    refine bw_callV S hK hZ hI (mX6_ofProjects l G cy g a z rows asd sm buf bm th od om ow ca bo la pl to rd hh 4 r75 hc) Y_X6_ofProjects V_X6_ofProjects l_X6_189 ⟨(Nat.le_of_ble_eq_true rfl), (Nat.le_of_ble_eq_true rfl)⟩ (q0 := 0) rfl rfl rfl (ws' := (bw_mW cy a z rows asd sm buf bm th od om ow ca bo la pl to rd hh)) (bw_pS _) (bw_pS' _) rfl rfl hl.1 (rest := []) (st1 := [.int r75]) rfl rfl (Nat.le_of_ble_eq_true rfl) dX6_counted_75 ⟨(Nat.le_of_ble_eq_true rfl), (Nat.le_of_ble_eq_true rfl)⟩ (fun H locs hI => ?_)
    exact bw_iretP S hr hlocks h hI rfl dX6_counted_78 hQ
  rw [if_neg c_1_3] at h
  by_cases c_1_4 : p1 = 4
  · rw [if_pos c_1_4] at h
    refine lv_tableIn (tgt := 79) hx hb dX6_counted_1 (by rw [c_1_4]; decide) (by rw [c_1_4]; decide) (by rw [c_1_4]; rfl) (by decide) ?_
    refine lv_aload_n hx hb dX6_counted_79 rfl (lv_at hl 0 rfl) ?_
    refine lv_iconst (v := 2) hx hb dX6_counted_80 rfl ?_
    obtain ⟨r81, hc, h⟩ := bw_b1_e h
    refine bw_callV S hK hZ hI (mX6_ofProjects l G cy g a z rows asd sm buf bm th od om ow ca bo la pl to rd hh 2 r81 hc) Y_X6_ofProjects V_X6_ofProjects l_X6_189 ⟨(Nat.le_of_ble_eq_true rfl), (Nat.le_of_ble_eq_true rfl)⟩ (q0 := 0) rfl rfl rfl (ws' := (bw_mW cy a z rows asd sm buf bm th od om ow ca bo la pl to rd hh)) (bw_pS _) (bw_pS' _) rfl rfl hl.1 (rest := []) (st1 := [.int r81]) rfl rfl (Nat.le_of_ble_eq_true rfl) dX6_counted_81 ⟨(Nat.le_of_ble_eq_true rfl), (Nat.le_of_ble_eq_true rfl)⟩ (fun H locs hI => ?_)
    exact bw_iretP S hr hlocks h hI rfl dX6_counted_84 hQ
  rw [if_neg c_1_4] at h
  by_cases c_1_5 : p1 = 5
  · rw [if_pos c_1_5] at h
    refine lv_tableIn (tgt := 85) hx hb dX6_counted_1 (by rw [c_1_5]; decide) (by rw [c_1_5]; decide) (by rw [c_1_5]; rfl) (by decide) ?_
    refine lv_aload_n hx hb dX6_counted_85 rfl (lv_at hl 0 rfl) ?_
    refine lv_bipush (v := 6) hx hb dX6_counted_86 (by decide) ?_
    obtain ⟨r88, hc, h⟩ := bw_b1_e h
    refine bw_callV S hK hZ hI (mX6_ofProjects l G cy g a z rows asd sm buf bm th od om ow ca bo la pl to rd hh 6 r88 hc) Y_X6_ofProjects V_X6_ofProjects l_X6_189 ⟨(Nat.le_of_ble_eq_true rfl), (Nat.le_of_ble_eq_true rfl)⟩ (q0 := 0) rfl rfl rfl (ws' := (bw_mW cy a z rows asd sm buf bm th od om ow ca bo la pl to rd hh)) (bw_pS _) (bw_pS' _) rfl rfl hl.1 (rest := []) (st1 := [.int r88]) rfl rfl (Nat.le_of_ble_eq_true rfl) dX6_counted_88 ⟨(Nat.le_of_ble_eq_true rfl), (Nat.le_of_ble_eq_true rfl)⟩ (fun H locs hI => ?_)
    exact bw_iretP S hr hlocks h hI rfl dX6_counted_91 hQ
  rw [if_neg c_1_5] at h
  by_cases c_1_6 : p1 = 6
  · rw [if_pos c_1_6] at h
    refine lv_tableIn (tgt := 92) hx hb dX6_counted_1 (by rw [c_1_6]; decide) (by rw [c_1_6]; decide) (by rw [c_1_6]; rfl) (by decide) ?_
    refine lv_aload_n hx hb dX6_counted_92 rfl (lv_at hl 0 rfl) ?_
    refine lv_bipush (v := 8) hx hb dX6_counted_93 (by decide) ?_
    obtain ⟨r95, hc, h⟩ := bw_b1_e h
    refine bw_callV S hK hZ hI (mX6_ofProjects l G cy g a z rows asd sm buf bm th od om ow ca bo la pl to rd hh 8 r95 hc) Y_X6_ofProjects V_X6_ofProjects l_X6_189 ⟨(Nat.le_of_ble_eq_true rfl), (Nat.le_of_ble_eq_true rfl)⟩ (q0 := 0) rfl rfl rfl (ws' := (bw_mW cy a z rows asd sm buf bm th od om ow ca bo la pl to rd hh)) (bw_pS _) (bw_pS' _) rfl rfl hl.1 (rest := []) (st1 := [.int r95]) rfl rfl (Nat.le_of_ble_eq_true rfl) dX6_counted_95 ⟨(Nat.le_of_ble_eq_true rfl), (Nat.le_of_ble_eq_true rfl)⟩ (fun H locs hI => ?_)
    exact bw_iretP S hr hlocks h hI rfl dX6_counted_98 hQ
  rw [if_neg c_1_6] at h
  by_cases c_1_7 : p1 = 7
  · rw [if_pos c_1_7] at h
    refine lv_tableIn (tgt := 99) hx hb dX6_counted_1 (by rw [c_1_7]; decide) (by rw [c_1_7]; decide) (by rw [c_1_7]; rfl) (by decide) ?_
    refine lv_aload_n hx hb dX6_counted_99 rfl (lv_at hl 0 rfl) ?_
    obtain ⟨r100, hc, h⟩ := bw_b1_e h
    refine bw_callV S hK hZ hI (mX6_delays l G cy g a z rows asd sm buf bm th od om ow ca bo la pl to rd hh r100 hc) Y_X6_delays V_X6_delays l_X6_192 ⟨(Nat.le_of_ble_eq_true rfl), (Nat.le_of_ble_eq_true rfl)⟩ (q0 := 0) rfl rfl rfl (ws' := (bw_mW cy a z rows asd sm buf bm th od om ow ca bo la pl to rd hh)) (bw_pS _) (bw_pS' _) rfl rfl hl.1 (rest := []) (st1 := [.int r100]) rfl rfl (Nat.le_of_ble_eq_true rfl) dX6_counted_100 ⟨(Nat.le_of_ble_eq_true rfl), (Nat.le_of_ble_eq_true rfl)⟩ (fun H locs hI => ?_)
    exact bw_iretP S hr hlocks h hI rfl dX6_counted_103 hQ
  rw [if_neg c_1_7] at h
  by_cases c_1_8 : p1 = 8
  · rw [if_pos c_1_8] at h
    refine lv_tableIn (tgt := 104) hx hb dX6_counted_1 (by rw [c_1_8]; decide) (by rw [c_1_8]; decide) (by rw [c_1_8]; rfl) (by decide) ?_
    refine lv_aload_n hx hb dX6_counted_104 rfl (lv_at hl 0 rfl) ?_
    refine bw_get S hK hI 0 0 rfl rfl (by decide) i_X6 f_X6_7 rfl dX6_counted_105 ?_
    refine lv_iconst (v := 2) hx hb dX6_counted_108 rfl ?_
    obtain ⟨v109, hv, h⟩ := bw_b1_e h
    refine bw_iald hx hb hK hI 1 hv rfl dX6_counted_109 ?_
    exact bw_iretP S hr hlocks h hI rfl dX6_counted_110 hQ
  rw [if_neg c_1_8] at h
  have t_0 := bw_nei c_1_0
  have t_1 := bw_nei c_1_1
  have t_2 := bw_nei c_1_2
  have t_3 := bw_nei c_1_3
  have t_4 := bw_nei c_1_4
  have t_5 := bw_nei c_1_5
  have t_6 := bw_nei c_1_6
  have t_7 := bw_nei c_1_7
  have t_8 := bw_nei c_1_8
  refine lv_tableOut (tgt := 111) hx hb dX6_counted_1 (bw_out9 t_0 t_1 t_2 t_3 t_4 t_5 t_6 t_7 t_8) (by decide) ?_
  refine lv_aload_n hx hb dX6_counted_111 rfl (lv_at hl 0 rfl) ?_
  refine bw_get S hK hI 0 3 rfl rfl (by decide) i_X6 f_X6_32 rfl dX6_counted_112 ?_
  exact bw_iretP S hr hlocks h hI rfl dX6_counted_115 hQ
set_option maxHeartbeats 4000000 in
set_option maxRecDepth 100000 in
theorem mX6_count (l : Launch) (G : va_G) (cy : Nat → ClassId) (g : Nat) (a : Nat → Nat) (z : bw_A1) (rows : bw_A1) (asd : bw_A1) (sm : Int32) (buf : bw_A1) (bm : Int32) (th : Int32) (od : bw_A1) (om : Int32) (ow : Int32) (ca : Int32) (bo : Int32) (la : Int32) (pl : Int32) (to : Int32) (rd : bw_A1) (hh : Int64) (p1 : Int32) (r : Int32) (th' : Int32) (h : fX6_count z sm th p1 = some (r, th')) : bw_M l yX6_count cX6_count 2 (some .int) 6 131 G cy g [.ref (a 0), .int p1] (bw_mW cy a z rows asd sm buf bm th od om ow ca bo la pl to rd hh) (some (.int r)) (bw_mW cy a z rows asd sm buf bm th' od om ow ca bo la pl to rd hh) := by
  refine bw_ofW (by decide +kernel) RX6 rfl (Nat.le_of_ble_eq_true rfl) ?_
  intro p e s m below meth c ls S hr hlocks hK hZ hI hl
  have hx := S.1
  have hb := S.2.1
  have hown := S.2.2.2.1
  have hts := S.2.2.2.2
  generalize va_A _ s.heap.size = A at hI hZ ⊢
  generalize hQ : MQ below _ _ s 0 0 A = Q
  have hl : lv_has ls 2 [(0, .ref (a 0)), (1, .int p1)] := hl
  unfold fX6_count at h
  refine lv_aload_n hx hb dX6_count_0 rfl (lv_at hl 0 rfl) ?_
  refine lv_iconst (v := 0) hx hb dX6_count_1 rfl ?_
  refine bw_put S hK hI 0 6 (ws' := (bw_mW cy a z rows asd sm buf bm 0 od om ow ca bo la pl to rd hh)) tyX6 tyX6_ok nmX6 rfl rfl (by decide) i_X6 f_X6_28 rfl rfl rfl rfl (Nat.le_of_ble_eq_true rfl) rfl dX6_count_2 (fun H locs hI => ?_)
  refine lv_iload_n hx hb dX6_count_5 rfl (lv_at hl 1 rfl) ?_
  refine lv_iconst (v := 0) hx hb dX6_count_6 rfl ?_
  refine lv_bipush (v := 9) hx hb dX6_count_7 (by decide) ?_
  obtain ⟨r9, hc, h⟩ := bw_b1_e h
  refine bw_callP S hK hZ hI (mX6_in l G cy g p1 0 9 r9 hc) Y_X6_in V_X6_in l_X6_35 ⟨(Nat.le_of_ble_eq_true rfl), (Nat.le_of_ble_eq_true rfl)⟩ (rest := []) (st1 := [.int r9]) rfl hl.1 rfl rfl (Nat.le_of_ble_eq_true rfl) dX6_count_9 ⟨(Nat.le_of_ble_eq_true rfl), (Nat.le_of_ble_eq_true rfl)⟩ (fun H locs hI => ?_)
  refine lv_if_eq (tgt := 23) hx hb dX6_count_12 (by decide) (fun c_12 => ?_) (fun c_12 => ?_)
  · rw [if_pos c_12] at h
    refine lv_aload_n hx hb dX6_count_23 rfl (lv_at hl 0 rfl) ?_
    refine lv_iconst (v := 1) hx hb dX6_count_24 rfl ?_
    obtain ⟨r25, th_25, hc, h⟩ := bw_b2_e h
    refine bw_callV S hK hZ hI (mX6_fails l G cy g a z rows asd sm buf bm 0 od om ow ca bo la pl to rd hh 1 r25 th_25 hc) Y_X6_fails V_X6_fails l_X6_114 ⟨(Nat.le_of_ble_eq_true rfl), (Nat.le_of_ble_eq_true rfl)⟩ (q0 := 0) rfl rfl rfl (ws' := (bw_mW cy a z rows asd sm buf bm th_25 od om ow ca bo la pl to rd hh)) (bw_pS _) (bw_pS' _) rfl rfl hl.1 (rest := []) (st1 := [.int r25]) rfl rfl (Nat.le_of_ble_eq_true rfl) dX6_count_25 ⟨(Nat.le_of_ble_eq_true rfl), (Nat.le_of_ble_eq_true rfl)⟩ (fun H locs hI => ?_)
    exact bw_iret (d := th_25) (rr := (r, th')) S hr hlocks h (fun q : Int32 => (bw_mW cy a z rows asd sm buf bm q od om ow ca bo la pl to rd hh)) hI rfl dX6_count_28 hQ
  rw [if_neg c_12] at h
  refine lv_aload_n hx hb dX6_count_15 rfl (lv_at hl 0 rfl) ?_
  refine lv_iload_n hx hb dX6_count_16 rfl (lv_at hl 1 rfl) ?_
  obtain ⟨r17, hc, h⟩ := bw_b1_e h
  refine bw_callV S hK hZ hI (mX6_counted l G cy g a z rows asd sm buf bm 0 od om ow ca bo la pl to rd hh p1 r17 hc) Y_X6_counted V_X6_counted l_X6_195 ⟨(Nat.le_of_ble_eq_true rfl), (Nat.le_of_ble_eq_true rfl)⟩ (q0 := 0) rfl rfl rfl (ws' := (bw_mW cy a z rows asd sm buf bm 0 od om ow ca bo la pl to rd hh)) (bw_pS _) (bw_pS' _) rfl rfl hl.1 (rest := []) (st1 := [.int r17]) rfl rfl (Nat.le_of_ble_eq_true rfl) dX6_count_17 ⟨(Nat.le_of_ble_eq_true rfl), (Nat.le_of_ble_eq_true rfl)⟩ (fun H locs hI => ?_)
  refine lv_goto (tgt := 28) hx hb dX6_count_20 (by decide) ?_
  exact bw_iret (d := 0) (rr := (r, th')) S hr hlocks h (fun q : Int32 => (bw_mW cy a z rows asd sm buf bm q od om ow ca bo la pl to rd hh)) hI rfl dX6_count_28 hQ
set_option maxHeartbeats 4000000 in
set_option maxRecDepth 100000 in
theorem mX6_setting (l : Launch) (G : va_G) (cy : Nat → ClassId) (g : Nat) (a : Nat → Nat) (z : bw_A1) (rows : bw_A1) (asd : bw_A1) (sm : Int32) (buf : bw_A1) (bm : Int32) (th : Int32) (od : bw_A1) (om : Int32) (ow : Int32) (ca : Int32) (bo : Int32) (la : Int32) (pl : Int32) (to : Int32) (rd : bw_A1) (hh : Int64) (p1 : Int32) (r : Int32) (th' : Int32) (h : fX6_setting z th p1 = some (r, th')) : bw_M l yX6_setting cX6_setting 2 (some .int) 1 22 G cy g [.ref (a 0), .int p1] (bw_mW cy a z rows asd sm buf bm th od om ow ca bo la pl to rd hh) (some (.int r)) (bw_mW cy a z rows asd sm buf bm th' od om ow ca bo la pl to rd hh) := by
  refine bw_ofW (by decide +kernel) RX6 rfl (Nat.le_of_ble_eq_true rfl) ?_
  intro p e s m below meth c ls S hr hlocks hK hZ hI hl
  have hx := S.1
  have hb := S.2.1
  have hown := S.2.2.2.1
  have hts := S.2.2.2.2
  generalize va_A _ s.heap.size = A at hI hZ ⊢
  generalize hQ : MQ below _ _ s 0 0 A = Q
  have hl : lv_has ls 2 [(0, .ref (a 0)), (1, .int p1)] := hl
  unfold fX6_setting at h
  refine lv_aload_n hx hb dX6_setting_0 rfl (lv_at hl 0 rfl) ?_
  refine lv_iconst (v := 0) hx hb dX6_setting_1 rfl ?_
  refine bw_put S hK hI 0 6 (ws' := (bw_mW cy a z rows asd sm buf bm 0 od om ow ca bo la pl to rd hh)) tyX6 tyX6_ok nmX6 rfl rfl (by decide) i_X6 f_X6_28 rfl rfl rfl rfl (Nat.le_of_ble_eq_true rfl) rfl dX6_setting_2 (fun H locs hI => ?_)
  refine lv_iload_n hx hb dX6_setting_5 rfl (lv_at hl 1 rfl) ?_
  refine lv_iconst (v := 0) hx hb dX6_setting_6 rfl ?_
  refine lv_iconst (v := 2) hx hb dX6_setting_7 rfl ?_
  obtain ⟨r8, hc, h⟩ := bw_b1_e h
  refine bw_callP S hK hZ hI (mX6_in l G cy g p1 0 2 r8 hc) Y_X6_in V_X6_in l_X6_35 ⟨(Nat.le_of_ble_eq_true rfl), (Nat.le_of_ble_eq_true rfl)⟩ (rest := []) (st1 := [.int r8]) rfl hl.1 rfl rfl (Nat.le_of_ble_eq_true rfl) dX6_setting_8 ⟨(Nat.le_of_ble_eq_true rfl), (Nat.le_of_ble_eq_true rfl)⟩ (fun H locs hI => ?_)
  refine lv_if_eq (tgt := 25) hx hb dX6_setting_11 (by decide) (fun c_11 => ?_) (fun c_11 => ?_)
  · rw [if_pos c_11] at h
    refine lv_aload_n hx hb dX6_setting_25 rfl (lv_at hl 0 rfl) ?_
    refine lv_iconst (v := 1) hx hb dX6_setting_26 rfl ?_
    obtain ⟨r27, th_27, hc, h⟩ := bw_b2_e h
    refine bw_callV S hK hZ hI (mX6_fails l G cy g a z rows asd sm buf bm 0 od om ow ca bo la pl to rd hh 1 r27 th_27 hc) Y_X6_fails V_X6_fails l_X6_114 ⟨(Nat.le_of_ble_eq_true rfl), (Nat.le_of_ble_eq_true rfl)⟩ (q0 := 0) rfl rfl rfl (ws' := (bw_mW cy a z rows asd sm buf bm th_27 od om ow ca bo la pl to rd hh)) (bw_pS _) (bw_pS' _) rfl rfl hl.1 (rest := []) (st1 := [.int r27]) rfl rfl (Nat.le_of_ble_eq_true rfl) dX6_setting_27 ⟨(Nat.le_of_ble_eq_true rfl), (Nat.le_of_ble_eq_true rfl)⟩ (fun H locs hI => ?_)
    exact bw_iret (d := th_27) (rr := (r, th')) S hr hlocks h (fun q : Int32 => (bw_mW cy a z rows asd sm buf bm q od om ow ca bo la pl to rd hh)) hI rfl dX6_setting_30 hQ
  rw [if_neg c_11] at h
  refine lv_aload_n hx hb dX6_setting_14 rfl (lv_at hl 0 rfl) ?_
  refine bw_get S hK hI 0 0 rfl rfl (by decide) i_X6 f_X6_7 rfl dX6_setting_15 ?_
  refine lv_iconst (v := 3) hx hb dX6_setting_18 rfl ?_
  refine lv_iload_n hx hb dX6_setting_19 rfl (lv_at hl 1 rfl) ?_
  refine lv_iadd hx hb dX6_setting_20 ?_
  obtain ⟨v21, hv, h⟩ := bw_b1_e h
  refine bw_iald hx hb hK hI 1 hv rfl dX6_setting_21 ?_
  refine lv_goto (tgt := 30) hx hb dX6_setting_22 (by decide) ?_
  exact bw_iret (d := 0) (rr := (r, th')) S hr hlocks h (fun q : Int32 => (bw_mW cy a z rows asd sm buf bm q od om ow ca bo la pl to rd hh)) hI rfl dX6_setting_30 hQ
set_option maxHeartbeats 4000000 in
set_option maxRecDepth 100000 in
theorem mX6_doneOf (l : Launch) (G : va_G) (cy : Nat → ClassId) (g : Nat) (a : Nat → Nat) (z : bw_A1) (rows : bw_A1) (asd : bw_A1) (sm : Int32) (buf : bw_A1) (bm : Int32) (th : Int32) (od : bw_A1) (om : Int32) (ow : Int32) (ca : Int32) (bo : Int32) (la : Int32) (pl : Int32) (to : Int32) (rd : bw_A1) (hh : Int64) (p1 : Int32) (p2 : Int32) (p3 : Int32) (r : Int32) (z' : bw_A1) (asd' : bw_A1) (od' : bw_A1) (om' : Int32) (ow' : Int32) (ca' : Int32) (bo' : Int32) (la' : Int32) (h : fX6_doneOf z asd od om ow ca bo la p1 p2 p3 = some (r, z', asd', od', om', ow', ca', bo', la')) : bw_M l yX6_doneOf cX6_doneOf 5 (some .int) 8 184 G cy g [.ref (a 0), .int p1, .int p2, .int p3] (bw_mW cy a z rows asd sm buf bm th od om ow ca bo la pl to rd hh) (some (.int r)) (bw_mW cy a z' rows asd' sm buf bm th od' om' ow' ca' bo' la' pl to rd hh) := by
  refine bw_ofW (by decide +kernel) RX6 rfl (Nat.le_of_ble_eq_true rfl) ?_
  intro p e s m below meth c ls S hr hlocks hK hZ hI hl
  have hx := S.1
  have hb := S.2.1
  have hown := S.2.2.2.1
  have hts := S.2.2.2.2
  generalize va_A _ s.heap.size = A at hI hZ ⊢
  generalize hQ : MQ below _ _ s 0 0 A = Q
  have hl : lv_has ls 5 [(0, .ref (a 0)), (1, .int p1), (2, .int p2), (3, .int p3)] := hl
  have j79 : ∀ (z : bw_A1) (asd : bw_A1) (od : bw_A1) (om : Int32) (ow : Int32) (ca : Int32) (bo : Int32) (la : Int32) (s0 : Int32) (H : Heap) (locs : List Loc) (ls : Array Slot), jX6_doneOf_79 z asd od om ow ca bo la s0 = some (r, z', asd', od', om', ow', ca', bo', la') → bw_I G A s.heap (bw_mW cy a z rows asd sm buf bm th od om ow ca bo la pl to rd hh) H locs → lv_has ls 5 [(0, .ref (a 0))] → W p l e (bw_rm 8 184) s m [.ref (a 0), .int p1, .int p2, .int p3].toArray below meth c H locs 0 0 Q (F0 m 79 ls [.int s0]) := by
    intro z asd od om ow ca bo la s0 H locs ls h hI hl
    unfold jX6_doneOf_79 at h
    refine lv_istore (lv' := [(4, .int s0), (0, .ref (a 0))]) hx hb dX6_doneOf_79 hl (by decide) rfl (fun ls hl => ?_)
    refine lv_aload_n hx hb dX6_doneOf_81 rfl (lv_at hl 1 rfl) ?_
    obtain ⟨z_82, hc, h⟩ := bw_b1_e h
    refine bw_callV S hK hZ hI (mX6_putBack l G cy g a z rows asd sm buf bm th od om ow ca bo la pl to rd hh z_82 hc) Y_X6_putBack V_X6_putBack l_X6_201 ⟨(Nat.le_of_ble_eq_true rfl), (Nat.le_of_ble_eq_true rfl)⟩ (q0 := 0) rfl rfl rfl (ws' := (bw_mW cy a z_82 rows asd sm buf bm th od om ow ca bo la pl to rd hh)) (bw_pS _) (bw_pS' _) rfl rfl hl.1 (rest := []) (st1 := []) rfl rfl (Nat.le_of_ble_eq_true rfl) dX6_doneOf_82 ⟨(Nat.le_of_ble_eq_true rfl), (Nat.le_of_ble_eq_true rfl)⟩ (fun H locs hI => ?_)
    refine lv_iload hx hb dX6_doneOf_85 (lv_at hl 0 rfl) ?_
    exact bw_iret (d := (z_82, asd, od, om, ow, ca, bo, la)) (rr := (r, z', asd', od', om', ow', ca', bo', la')) S hr hlocks h (fun q : (bw_A1 × bw_A1 × bw_A1 × Int32 × Int32 × Int32 × Int32 × Int32) => (bw_mW cy a q.1 rows q.2.1 sm buf bm th q.2.2.1 q.2.2.2.1 q.2.2.2.2.1 q.2.2.2.2.2.1 q.2.2.2.2.2.2.1 q.2.2.2.2.2.2.2 pl to rd hh)) hI rfl dX6_doneOf_87 hQ
  unfold fX6_doneOf at h
  refine lv_aload_n hx hb dX6_doneOf_0 rfl (lv_at hl 0 rfl) ?_
  refine lv_iload_n hx hb dX6_doneOf_1 rfl (lv_at hl 1 rfl) ?_
  obtain ⟨r2, hc, h⟩ := bw_b1_e h
  refine bw_callV S hK hZ hI (mX6_mayDo l G cy g a z rows asd sm buf bm th od om ow ca bo la pl to rd hh p1 r2 hc) Y_X6_mayDo V_X6_mayDo l_X6_129 ⟨(Nat.le_of_ble_eq_true rfl), (Nat.le_of_ble_eq_true rfl)⟩ (q0 := 0) rfl rfl rfl (ws' := (bw_mW cy a z rows asd sm buf bm th od om ow ca bo la pl to rd hh)) (bw_pS _) (bw_pS' _) rfl rfl hl.1 (rest := []) (st1 := [.int r2]) rfl rfl (Nat.le_of_ble_eq_true rfl) dX6_doneOf_2 ⟨(Nat.le_of_ble_eq_true rfl), (Nat.le_of_ble_eq_true rfl)⟩ (fun H locs hI => ?_)
  refine lv_if_ne (tgt := 10) hx hb dX6_doneOf_5 (by decide) (fun c_5 => ?_) (fun c_5 => ?_)
  · rw [if_neg c_5] at h
    refine lv_aload_n hx hb dX6_doneOf_10 rfl (lv_at hl 0 rfl) ?_
    obtain ⟨asd_11, hc, h⟩ := bw_b1_e h
    refine bw_callV S hK hZ hI (mX6_putAside l G cy g a z rows asd sm buf bm th od om ow ca bo la pl to rd hh asd_11 hc) Y_X6_putAside V_X6_putAside l_X6_198 ⟨(Nat.le_of_ble_eq_true rfl), (Nat.le_of_ble_eq_true rfl)⟩ (q0 := 0) rfl rfl rfl (ws' := (bw_mW cy a z rows asd_11 sm buf bm th od om ow ca bo la pl to rd hh)) (bw_pS _) (bw_pS' _) rfl rfl hl.1 (rest := []) (st1 := []) rfl rfl (Nat.le_of_ble_eq_true rfl) dX6_doneOf_11 ⟨(Nat.le_of_ble_eq_true rfl), (Nat.le_of_ble_eq_true rfl)⟩ (fun H locs hI => ?_)
    refine lv_aload_n hx hb dX6_doneOf_14 rfl (lv_at hl 0 rfl) ?_
    refine lv_iload_n hx hb dX6_doneOf_15 rfl (lv_at hl 1 rfl) ?_
    refine lv_iload_n hx hb dX6_doneOf_16 rfl (lv_at hl 2 rfl) ?_
    obtain ⟨z_17, od_17, om_17, ow_17, ca_17, bo_17, la_17, hc, h⟩ := bw_b7_e h
    refine bw_callV S hK hZ hI (mX6_doNow l G cy g a z rows asd_11 sm buf bm th od om ow ca bo la pl to rd hh p1 p2 z_17 od_17 om_17 ow_17 ca_17 bo_17 la_17 hc) Y_X6_doNow V_X6_doNow l_X6_132 ⟨(Nat.le_of_ble_eq_true rfl), (Nat.le_of_ble_eq_true rfl)⟩ (q0 := 0) rfl rfl rfl (ws' := (bw_mW cy a z_17 rows asd_11 sm buf bm th od_17 om_17 ow_17 ca_17 bo_17 la_17 pl to rd hh)) (bw_pS _) (bw_pS' _) rfl rfl hl.1 (rest := []) (st1 := []) rfl rfl (Nat.le_of_ble_eq_true rfl) dX6_doneOf_17 ⟨(Nat.le_of_ble_eq_true rfl), (Nat.le_of_ble_eq_true rfl)⟩ (fun H locs hI => ?_)
    refine lv_iload_n hx hb dX6_doneOf_20 rfl (lv_at hl 3 rfl) ?_
    refine lv_if_ne (tgt := 31) hx hb dX6_doneOf_21 (by decide) (fun c_21 => ?_) (fun c_21 => ?_)
    · rw [if_neg c_21] at h
      refine lv_iload_n hx hb dX6_doneOf_31 rfl (lv_at hl 3 rfl) ?_
      refine lv_iconst (v := 1) hx hb dX6_doneOf_32 rfl ?_
      refine lv_icmp_ne (tgt := 43) hx hb dX6_doneOf_33 (by decide) (fun c_33 => ?_) (fun c_33 => ?_)
      · rw [if_neg c_33] at h
        refine lv_iload_n hx hb dX6_doneOf_43 rfl (lv_at hl 3 rfl) ?_
        refine lv_iconst (v := 2) hx hb dX6_doneOf_44 rfl ?_
        refine lv_icmp_ne (tgt := 55) hx hb dX6_doneOf_45 (by decide) (fun c_45 => ?_) (fun c_45 => ?_)
        · rw [if_neg c_45] at h
          refine lv_iload_n hx hb dX6_doneOf_55 rfl (lv_at hl 3 rfl) ?_
          refine lv_iconst (v := 3) hx hb dX6_doneOf_56 rfl ?_
          refine lv_icmp_ne (tgt := 74) hx hb dX6_doneOf_57 (by decide) (fun c_57 => ?_) (fun c_57 => ?_)
          · rw [if_neg c_57] at h
            refine lv_aload_n hx hb dX6_doneOf_74 rfl (lv_at hl 0 rfl) ?_
            refine lv_iload_n hx hb dX6_doneOf_75 rfl (lv_at hl 1 rfl) ?_
            obtain ⟨r76, hc, h⟩ := bw_b1_e h
            refine bw_callV S hK hZ hI (mX6_owedBy l G cy g a z_17 rows asd_11 sm buf bm th od_17 om_17 ow_17 ca_17 bo_17 la_17 pl to rd hh p1 r76 hc) Y_X6_owedBy V_X6_owedBy l_X6_170 ⟨(Nat.le_of_ble_eq_true rfl), (Nat.le_of_ble_eq_true rfl)⟩ (q0 := 0) rfl rfl rfl (ws' := (bw_mW cy a z_17 rows asd_11 sm buf bm th od_17 om_17 ow_17 ca_17 bo_17 la_17 pl to rd hh)) (bw_pS _) (bw_pS' _) rfl rfl hl.1 (rest := []) (st1 := [.int r76]) rfl rfl (Nat.le_of_ble_eq_true rfl) dX6_doneOf_76 ⟨(Nat.le_of_ble_eq_true rfl), (Nat.le_of_ble_eq_true rfl)⟩ (fun H locs hI => ?_)
            exact j79 z_17 asd_11 od_17 om_17 ow_17 ca_17 bo_17 la_17 r76 _ _ _ h hI (lv_sub hl [0] rfl)
          rw [if_pos c_57] at h
          refine lv_aload_n hx hb dX6_doneOf_60 rfl (lv_at hl 0 rfl) ?_
          refine bw_get S hK hI 0 0 rfl rfl (by decide) i_X6 f_X6_7 rfl dX6_doneOf_61 ?_
          refine lv_iload_n hx hb dX6_doneOf_64 rfl (lv_at hl 1 rfl) ?_
          obtain ⟨r65, hc, h⟩ := bw_b1_e h
          refine bw_callP S hK hZ hI (mX6_at l G cy g p1 r65 hc) Y_X6_at V_X6_at l_X6_39 ⟨(Nat.le_of_ble_eq_true rfl), (Nat.le_of_ble_eq_true rfl)⟩ (rest := [.ref (a 1)]) (st1 := [.int r65, .ref (a 1)]) rfl hl.1 rfl rfl (Nat.le_of_ble_eq_true rfl) dX6_doneOf_65 ⟨(Nat.le_of_ble_eq_true rfl), (Nat.le_of_ble_eq_true rfl)⟩ (fun H locs hI => ?_)
          refine lv_iconst (v := 2) hx hb dX6_doneOf_68 rfl ?_
          refine lv_iadd hx hb dX6_doneOf_69 ?_
          obtain ⟨v70, hv, h⟩ := bw_b1_e h
          refine bw_iald hx hb hK hI 1 hv rfl dX6_doneOf_70 ?_
          refine lv_goto (tgt := 79) hx hb dX6_doneOf_71 (by decide) ?_
          exact j79 z_17 asd_11 od_17 om_17 ow_17 ca_17 bo_17 la_17 v70 _ _ _ h hI (lv_sub hl [0] rfl)
        rw [if_pos c_45] at h
        refine lv_aload_n hx hb dX6_doneOf_48 rfl (lv_at hl 0 rfl) ?_
        refine bw_get S hK hI 0 10 rfl rfl (by decide) i_X6 f_X6_80 rfl dX6_doneOf_49 ?_
        refine lv_goto (tgt := 79) hx hb dX6_doneOf_52 (by decide) ?_
        exact j79 z_17 asd_11 od_17 om_17 ow_17 ca_17 bo_17 la_17 ca_17 _ _ _ h hI (lv_sub hl [0] rfl)
      rw [if_pos c_33] at h
      refine lv_aload_n hx hb dX6_doneOf_36 rfl (lv_at hl 0 rfl) ?_
      refine bw_get S hK hI 0 11 rfl rfl (by decide) i_X6 f_X6_90 rfl dX6_doneOf_37 ?_
      refine lv_goto (tgt := 79) hx hb dX6_doneOf_40 (by decide) ?_
      exact j79 z_17 asd_11 od_17 om_17 ow_17 ca_17 bo_17 la_17 bo_17 _ _ _ h hI (lv_sub hl [0] rfl)
    rw [if_pos c_21] at h
    refine lv_aload_n hx hb dX6_doneOf_24 rfl (lv_at hl 0 rfl) ?_
    refine bw_get S hK hI 0 12 rfl rfl (by decide) i_X6 f_X6_93 rfl dX6_doneOf_25 ?_
    refine lv_goto (tgt := 79) hx hb dX6_doneOf_28 (by decide) ?_
    exact j79 z_17 asd_11 od_17 om_17 ow_17 ca_17 bo_17 la_17 la_17 _ _ _ h hI (lv_sub hl [0] rfl)
  rw [if_pos c_5] at h
  refine lv_iconst (v := (-1)) hx hb dX6_doneOf_8 rfl ?_
  exact bw_iret (d := (z, asd, od, om, ow, ca, bo, la)) (rr := (r, z', asd', od', om', ow', ca', bo', la')) S hr hlocks h (fun q : (bw_A1 × bw_A1 × bw_A1 × Int32 × Int32 × Int32 × Int32 × Int32) => (bw_mW cy a q.1 rows q.2.1 sm buf bm th q.2.2.1 q.2.2.2.1 q.2.2.2.2.1 q.2.2.2.2.2.1 q.2.2.2.2.2.2.1 q.2.2.2.2.2.2.2 pl to rd hh)) hI rfl dX6_doneOf_9 hQ
set_option maxHeartbeats 4000000 in
set_option maxRecDepth 100000 in
theorem mX6_ifDone (l : Launch) (G : va_G) (cy : Nat → ClassId) (g : Nat) (a : Nat → Nat) (z : bw_A1) (rows : bw_A1) (asd : bw_A1) (sm : Int32) (buf : bw_A1) (bm : Int32) (th : Int32) (od : bw_A1) (om : Int32) (ow : Int32) (ca : Int32) (bo : Int32) (la : Int32) (pl : Int32) (to : Int32) (rd : bw_A1) (hh : Int64) (p1 : Int32) (p2 : Int32) (p3 : Int32) (r : Int32) (z' : bw_A1) (asd' : bw_A1) (th' : Int32) (od' : bw_A1) (om' : Int32) (ow' : Int32) (ca' : Int32) (bo' : Int32) (la' : Int32) (h : fX6_ifDone z asd th od om ow ca bo la p1 p2 p3 = some (r, z', asd', th', od', om', ow', ca', bo', la')) : bw_M l yX6_ifDone cX6_ifDone 4 (some .int) 9 208 G cy g [.ref (a 0), .int p1, .int p2, .int p3] (bw_mW cy a z rows asd sm buf bm th od om ow ca bo la pl to rd hh) (some (.int r)) (bw_mW cy a z' rows asd' sm buf bm th' od' om' ow' ca' bo' la' pl to rd hh) := by
  refine bw_ofW (by decide +kernel) RX6 rfl (Nat.le_of_ble_eq_true rfl) ?_
  intro p e s m below meth c ls S hr hlocks hK hZ hI hl
  have hx := S.1
  have hb := S.2.1
  have hown := S.2.2.2.1
  have hts := S.2.2.2.2
  generalize va_A _ s.heap.size = A at hI hZ ⊢
  generalize hQ : MQ below _ _ s 0 0 A = Q
  have hl : lv_has ls 4 [(0, .ref (a 0)), (1, .int p1), (2, .int p2), (3, .int p3)] := hl
  have j49 : ∀ (z : bw_A1) (asd : bw_A1) (th : Int32) (od : bw_A1) (om : Int32) (ow : Int32) (ca : Int32) (bo : Int32) (la : Int32) (H : Heap) (locs : List Loc) (ls : Array Slot), jX6_ifDone_49 z asd th od om ow ca bo la = some (r, z', asd', th', od', om', ow', ca', bo', la') → bw_I G A s.heap (bw_mW cy a z rows asd sm buf bm th od om ow ca bo la pl to rd hh) H locs → lv_has ls 4 [(0, .ref (a 0))] → W p l e (bw_rm 9 208) s m [.ref (a 0), .int p1, .int p2, .int p3].toArray below meth c H locs 0 0 Q (F0 m 49 ls []) := by
    intro z asd th od om ow ca bo la H locs ls h hI hl
    unfold jX6_ifDone_49 at h
    refine lv_aload_n hx hb dX6_ifDone_49 rfl (lv_at hl 0 rfl) ?_
    refine lv_iconst (v := 2) hx hb dX6_ifDone_50 rfl ?_
    obtain ⟨r51, th_51, hc, h⟩ := bw_b2_e h
    refine bw_callV S hK hZ hI (mX6_fails l G cy g a z rows asd sm buf bm th od om ow ca bo la pl to rd hh 2 r51 th_51 hc) Y_X6_fails V_X6_fails l_X6_114 ⟨(Nat.le_of_ble_eq_true rfl), (Nat.le_of_ble_eq_true rfl)⟩ (q0 := 0) rfl rfl rfl (ws' := (bw_mW cy a z rows asd sm buf bm th_51 od om ow ca bo la pl to rd hh)) (bw_pS _) (bw_pS' _) rfl rfl hl.1 (rest := []) (st1 := [.int r51]) rfl rfl (Nat.le_of_ble_eq_true rfl) dX6_ifDone_51 ⟨(Nat.le_of_ble_eq_true rfl), (Nat.le_of_ble_eq_true rfl)⟩ (fun H locs hI => ?_)
    exact bw_iret (d := (z, asd, th_51, od, om, ow, ca, bo, la)) (rr := (r, z', asd', th', od', om', ow', ca', bo', la')) S hr hlocks h (fun q : (bw_A1 × bw_A1 × Int32 × bw_A1 × Int32 × Int32 × Int32 × Int32 × Int32) => (bw_mW cy a q.1 rows q.2.1 sm buf bm q.2.2.1 q.2.2.2.1 q.2.2.2.2.1 q.2.2.2.2.2.1 q.2.2.2.2.2.2.1 q.2.2.2.2.2.2.2.1 q.2.2.2.2.2.2.2.2 pl to rd hh)) hI rfl dX6_ifDone_54 hQ
  unfold fX6_ifDone at h
  refine lv_aload_n hx hb dX6_ifDone_0 rfl (lv_at hl 0 rfl) ?_
  refine lv_iconst (v := 0) hx hb dX6_ifDone_1 rfl ?_
  refine bw_put S hK hI 0 6 (ws' := (bw_mW cy a z rows asd sm buf bm 0 od om ow ca bo la pl to rd hh)) tyX6 tyX6_ok nmX6 rfl rfl (by decide) i_X6 f_X6_28 rfl rfl rfl rfl (Nat.le_of_ble_eq_true rfl) rfl dX6_ifDone_2 (fun H locs hI => ?_)
  refine lv_aload_n hx hb dX6_ifDone_5 rfl (lv_at hl 0 rfl) ?_
  refine lv_iload_n hx hb dX6_ifDone_6 rfl (lv_at hl 1 rfl) ?_
  obtain ⟨r7, hc, h⟩ := bw_b1_e h
  refine bw_callV S hK hZ hI (mX6_isProject l G cy g a z rows asd sm buf bm 0 od om ow ca bo la pl to rd hh p1 r7 hc) Y_X6_isProject V_X6_isProject l_X6_123 ⟨(Nat.le_of_ble_eq_true rfl), (Nat.le_of_ble_eq_true rfl)⟩ (q0 := 0) rfl rfl rfl (ws' := (bw_mW cy a z rows asd sm buf bm 0 od om ow ca bo la pl to rd hh)) (bw_pS _) (bw_pS' _) rfl rfl hl.1 (rest := []) (st1 := [.int r7]) rfl rfl (Nat.le_of_ble_eq_true rfl) dX6_ifDone_7 ⟨(Nat.le_of_ble_eq_true rfl), (Nat.le_of_ble_eq_true rfl)⟩ (fun H locs hI => ?_)
  refine lv_if_ne (tgt := 19) hx hb dX6_ifDone_10 (by decide) (fun c_10 => ?_) (fun c_10 => ?_)
  · rw [if_neg c_10] at h
    refine lv_iload_n hx hb dX6_ifDone_19 rfl (lv_at hl 2 rfl) ?_
    refine lv_iconst (v := 0) hx hb dX6_ifDone_20 rfl ?_
    refine lv_sipush (v := 300) hx hb dX6_ifDone_21 (by decide) ?_
    obtain ⟨r24, hc, h⟩ := bw_b1_e h
    refine bw_callP S hK hZ hI (mX6_in l G cy g p2 0 300 r24 hc) Y_X6_in V_X6_in l_X6_35 ⟨(Nat.le_of_ble_eq_true rfl), (Nat.le_of_ble_eq_true rfl)⟩ (rest := []) (st1 := [.int r24]) rfl hl.1 rfl rfl (Nat.le_of_ble_eq_true rfl) dX6_ifDone_24 ⟨(Nat.le_of_ble_eq_true rfl), (Nat.le_of_ble_eq_true rfl)⟩ (fun H locs hI => ?_)
    refine lv_if_eq (tgt := 49) hx hb dX6_ifDone_27 (by decide) (fun c_27 => ?_) (fun c_27 => ?_)
    · rw [if_pos c_27] at h
      exact j49 z asd 0 od om ow ca bo la _ _ _ h hI (lv_sub hl [0] rfl)
    rw [if_neg c_27] at h
    refine lv_iload_n hx hb dX6_ifDone_30 rfl (lv_at hl 3 rfl) ?_
    refine lv_iconst (v := 0) hx hb dX6_ifDone_31 rfl ?_
    refine lv_iconst (v := 4) hx hb dX6_ifDone_32 rfl ?_
    obtain ⟨r33, hc, h⟩ := bw_b1_e h
    refine bw_callP S hK hZ hI (mX6_in l G cy g p3 0 4 r33 hc) Y_X6_in V_X6_in l_X6_35 ⟨(Nat.le_of_ble_eq_true rfl), (Nat.le_of_ble_eq_true rfl)⟩ (rest := []) (st1 := [.int r33]) rfl hl.1 rfl rfl (Nat.le_of_ble_eq_true rfl) dX6_ifDone_33 ⟨(Nat.le_of_ble_eq_true rfl), (Nat.le_of_ble_eq_true rfl)⟩ (fun H locs hI => ?_)
    refine lv_if_eq (tgt := 49) hx hb dX6_ifDone_36 (by decide) (fun c_36 => ?_) (fun c_36 => ?_)
    · rw [if_pos c_36] at h
      exact j49 z asd 0 od om ow ca bo la _ _ _ h hI (lv_sub hl [0] rfl)
    rw [if_neg c_36] at h
    refine lv_aload_n hx hb dX6_ifDone_39 rfl (lv_at hl 0 rfl) ?_
    refine lv_iload_n hx hb dX6_ifDone_40 rfl (lv_at hl 1 rfl) ?_
    refine lv_iload_n hx hb dX6_ifDone_41 rfl (lv_at hl 2 rfl) ?_
    refine lv_iload_n hx hb dX6_ifDone_42 rfl (lv_at hl 3 rfl) ?_
    obtain ⟨r43, z_43, asd_43, od_43, om_43, ow_43, ca_43, bo_43, la_43, hc, h⟩ := bw_b9_e h
    refine bw_callV S hK hZ hI (mX6_doneOf l G cy g a z rows asd sm buf bm 0 od om ow ca bo la pl to rd hh p1 p2 p3 r43 z_43 asd_43 od_43 om_43 ow_43 ca_43 bo_43 la_43 hc) Y_X6_doneOf V_X6_doneOf l_X6_204 ⟨(Nat.le_of_ble_eq_true rfl), (Nat.le_of_ble_eq_true rfl)⟩ (q0 := 0) rfl rfl rfl (ws' := (bw_mW cy a z_43 rows asd_43 sm buf bm 0 od_43 om_43 ow_43 ca_43 bo_43 la_43 pl to rd hh)) (bw_pS _) (bw_pS' _) rfl rfl hl.1 (rest := []) (st1 := [.int r43]) rfl rfl (Nat.le_of_ble_eq_true rfl) dX6_ifDone_43 ⟨(Nat.le_of_ble_eq_true rfl), (Nat.le_of_ble_eq_true rfl)⟩ (fun H locs hI => ?_)
    refine lv_goto (tgt := 54) hx hb dX6_ifDone_46 (by decide) ?_
    exact bw_iret (d := (z_43, asd_43, 0, od_43, om_43, ow_43, ca_43, bo_43, la_43)) (rr := (r, z', asd', th', od', om', ow', ca', bo', la')) S hr hlocks h (fun q : (bw_A1 × bw_A1 × Int32 × bw_A1 × Int32 × Int32 × Int32 × Int32 × Int32) => (bw_mW cy a q.1 rows q.2.1 sm buf bm q.2.2.1 q.2.2.2.1 q.2.2.2.2.1 q.2.2.2.2.2.1 q.2.2.2.2.2.2.1 q.2.2.2.2.2.2.2.1 q.2.2.2.2.2.2.2.2 pl to rd hh)) hI rfl dX6_ifDone_54 hQ
  rw [if_pos c_10] at h
  refine lv_aload_n hx hb dX6_ifDone_13 rfl (lv_at hl 0 rfl) ?_
  refine lv_iconst (v := 1) hx hb dX6_ifDone_14 rfl ?_
  obtain ⟨r15, th_15, hc, h⟩ := bw_b2_e h
  refine bw_callV S hK hZ hI (mX6_fails l G cy g a z rows asd sm buf bm 0 od om ow ca bo la pl to rd hh 1 r15 th_15 hc) Y_X6_fails V_X6_fails l_X6_114 ⟨(Nat.le_of_ble_eq_true rfl), (Nat.le_of_ble_eq_true rfl)⟩ (q0 := 0) rfl rfl rfl (ws' := (bw_mW cy a z rows asd sm buf bm th_15 od om ow ca bo la pl to rd hh)) (bw_pS _) (bw_pS' _) rfl rfl hl.1 (rest := []) (st1 := [.int r15]) rfl rfl (Nat.le_of_ble_eq_true rfl) dX6_ifDone_15 ⟨(Nat.le_of_ble_eq_true rfl), (Nat.le_of_ble_eq_true rfl)⟩ (fun H locs hI => ?_)
  exact bw_iret (d := (z, asd, th_15, od, om, ow, ca, bo, la)) (rr := (r, z', asd', th', od', om', ow', ca', bo', la')) S hr hlocks h (fun q : (bw_A1 × bw_A1 × Int32 × bw_A1 × Int32 × Int32 × Int32 × Int32 × Int32) => (bw_mW cy a q.1 rows q.2.1 sm buf bm q.2.2.1 q.2.2.2.1 q.2.2.2.2.1 q.2.2.2.2.2.1 q.2.2.2.2.2.2.1 q.2.2.2.2.2.2.2.1 q.2.2.2.2.2.2.2.2 pl to rd hh)) hI rfl dX6_ifDone_18 hQ
set_option maxHeartbeats 4000000 in
set_option maxRecDepth 100000 in
theorem mX6_bornBy (l : Launch) (G : va_G) (cy : Nat → ClassId) (g : Nat) (a : Nat → Nat) (z : bw_A1) (rows : bw_A1) (asd : bw_A1) (sm : Int32) (buf : bw_A1) (bm : Int32) (th : Int32) (od : bw_A1) (om : Int32) (ow : Int32) (ca : Int32) (bo : Int32) (la : Int32) (pl : Int32) (to : Int32) (rd : bw_A1) (hh : Int64) (p1 : Int32) (r : Int32) (z' : bw_A1) (asd' : bw_A1) (od' : bw_A1) (om' : Int32) (ow' : Int32) (ca' : Int32) (bo' : Int32) (la' : Int32) (h : fX6_bornBy z asd od om ow ca bo la p1 = some (r, z', asd', od', om', ow', ca', bo', la')) : bw_M l yX6_bornBy cX6_bornBy 3 (some .int) 7 159 G cy g [.ref (a 0), .int p1] (bw_mW cy a z rows asd sm buf bm th od om ow ca bo la pl to rd hh) (some (.int r)) (bw_mW cy a z' rows asd' sm buf bm th od' om' ow' ca' bo' la' pl to rd hh) := by
  refine bw_ofW (by decide +kernel) RX6 rfl (Nat.le_of_ble_eq_true rfl) ?_
  intro p e s m below meth c ls S hr hlocks hK hZ hI hl
  have hx := S.1
  have hb := S.2.1
  have hown := S.2.2.2.1
  have hts := S.2.2.2.2
  generalize va_A _ s.heap.size = A at hI hZ ⊢
  generalize hQ : MQ below _ _ s 0 0 A = Q
  have hl : lv_has ls 3 [(0, .ref (a 0)), (1, .int p1)] := hl
  unfold fX6_bornBy at h
  refine lv_aload_n hx hb dX6_bornBy_0 rfl (lv_at hl 0 rfl) ?_
  refine lv_iload_n hx hb dX6_bornBy_1 rfl (lv_at hl 1 rfl) ?_
  obtain ⟨r2, hc, h⟩ := bw_b1_e h
  refine bw_callV S hK hZ hI (mX6_isOpen l G cy g a z rows asd sm buf bm th od om ow ca bo la pl to rd hh p1 r2 hc) Y_X6_isOpen V_X6_isOpen l_X6_43 ⟨(Nat.le_of_ble_eq_true rfl), (Nat.le_of_ble_eq_true rfl)⟩ (q0 := 0) rfl rfl rfl (ws' := (bw_mW cy a z rows asd sm buf bm th od om ow ca bo la pl to rd hh)) (bw_pS _) (bw_pS' _) rfl rfl hl.1 (rest := []) (st1 := [.int r2]) rfl rfl (Nat.le_of_ble_eq_true rfl) dX6_bornBy_2 ⟨(Nat.le_of_ble_eq_true rfl), (Nat.le_of_ble_eq_true rfl)⟩ (fun H locs hI => ?_)
  refine lv_if_ne (tgt := 10) hx hb dX6_bornBy_5 (by decide) (fun c_5 => ?_) (fun c_5 => ?_)
  · rw [if_neg c_5] at h
    refine lv_aload_n hx hb dX6_bornBy_10 rfl (lv_at hl 0 rfl) ?_
    obtain ⟨asd_11, hc, h⟩ := bw_b1_e h
    refine bw_callV S hK hZ hI (mX6_putAside l G cy g a z rows asd sm buf bm th od om ow ca bo la pl to rd hh asd_11 hc) Y_X6_putAside V_X6_putAside l_X6_198 ⟨(Nat.le_of_ble_eq_true rfl), (Nat.le_of_ble_eq_true rfl)⟩ (q0 := 0) rfl rfl rfl (ws' := (bw_mW cy a z rows asd_11 sm buf bm th od om ow ca bo la pl to rd hh)) (bw_pS _) (bw_pS' _) rfl rfl hl.1 (rest := []) (st1 := []) rfl rfl (Nat.le_of_ble_eq_true rfl) dX6_bornBy_11 ⟨(Nat.le_of_ble_eq_true rfl), (Nat.le_of_ble_eq_true rfl)⟩ (fun H locs hI => ?_)
    refine lv_aload_n hx hb dX6_bornBy_14 rfl (lv_at hl 0 rfl) ?_
    refine lv_iload_n hx hb dX6_bornBy_15 rfl (lv_at hl 1 rfl) ?_
    refine lv_ldc hx hb hown (hts _ (List.mem_cons_of_mem _ k_X6_207)) dX6_bornBy_16 ?_
    obtain ⟨z_18, od_18, om_18, ow_18, ca_18, bo_18, la_18, hc, h⟩ := bw_b7_e h
    refine bw_callV S hK hZ hI (mX6_charge l G cy g a z rows asd_11 sm buf bm th od om ow ca bo la pl to rd hh p1 1000000 z_18 od_18 om_18 ow_18 ca_18 bo_18 la_18 hc) Y_X6_charge V_X6_charge l_X6_105 ⟨(Nat.le_of_ble_eq_true rfl), (Nat.le_of_ble_eq_true rfl)⟩ (q0 := 0) rfl rfl rfl (ws' := (bw_mW cy a z_18 rows asd_11 sm buf bm th od_18 om_18 ow_18 ca_18 bo_18 la_18 pl to rd hh)) (bw_pS _) (bw_pS' _) rfl rfl hl.1 (rest := []) (st1 := []) rfl rfl (Nat.le_of_ble_eq_true rfl) dX6_bornBy_18 ⟨(Nat.le_of_ble_eq_true rfl), (Nat.le_of_ble_eq_true rfl)⟩ (fun H locs hI => ?_)
    refine lv_ldc hx hb hown (hts _ (List.mem_cons_of_mem _ k_X6_207)) dX6_bornBy_21 ?_
    refine lv_aload_n hx hb dX6_bornBy_23 rfl (lv_at hl 0 rfl) ?_
    refine bw_get S hK hI 0 12 rfl rfl (by decide) i_X6 f_X6_93 rfl dX6_bornBy_24 ?_
    refine lv_isub hx hb dX6_bornBy_27 ?_
    refine lv_topi (fun x2_28 e_28 => ?_)
    have h := bw_let_e h e_28
    clear e_28
    refine lv_istore_n (lv' := [(2, .int x2_28), (0, .ref (a 0)), (1, .int p1)]) hx hb dX6_bornBy_28 rfl hl (by decide) rfl (fun ls hl => ?_)
    refine lv_aload_n hx hb dX6_bornBy_29 rfl (lv_at hl 1 rfl) ?_
    obtain ⟨z_30, hc, h⟩ := bw_b1_e h
    refine bw_callV S hK hZ hI (mX6_putBack l G cy g a z_18 rows asd_11 sm buf bm th od_18 om_18 ow_18 ca_18 bo_18 la_18 pl to rd hh z_30 hc) Y_X6_putBack V_X6_putBack l_X6_201 ⟨(Nat.le_of_ble_eq_true rfl), (Nat.le_of_ble_eq_true rfl)⟩ (q0 := 0) rfl rfl rfl (ws' := (bw_mW cy a z_30 rows asd_11 sm buf bm th od_18 om_18 ow_18 ca_18 bo_18 la_18 pl to rd hh)) (bw_pS _) (bw_pS' _) rfl rfl hl.1 (rest := []) (st1 := []) rfl rfl (Nat.le_of_ble_eq_true rfl) dX6_bornBy_30 ⟨(Nat.le_of_ble_eq_true rfl), (Nat.le_of_ble_eq_true rfl)⟩ (fun H locs hI => ?_)
    refine lv_iload_n hx hb dX6_bornBy_33 rfl (lv_at hl 0 rfl) ?_
    exact bw_iret (d := (z_30, asd_11, od_18, om_18, ow_18, ca_18, bo_18, la_18)) (rr := (r, z', asd', od', om', ow', ca', bo', la')) S hr hlocks h (fun q : (bw_A1 × bw_A1 × bw_A1 × Int32 × Int32 × Int32 × Int32 × Int32) => (bw_mW cy a q.1 rows q.2.1 sm buf bm th q.2.2.1 q.2.2.2.1 q.2.2.2.2.1 q.2.2.2.2.2.1 q.2.2.2.2.2.2.1 q.2.2.2.2.2.2.2 pl to rd hh)) hI rfl dX6_bornBy_34 hQ
  rw [if_pos c_5] at h
  refine lv_iconst (v := (-1)) hx hb dX6_bornBy_8 rfl ?_
  exact bw_iret (d := (z, asd, od, om, ow, ca, bo, la)) (rr := (r, z', asd', od', om', ow', ca', bo', la')) S hr hlocks h (fun q : (bw_A1 × bw_A1 × bw_A1 × Int32 × Int32 × Int32 × Int32 × Int32) => (bw_mW cy a q.1 rows q.2.1 sm buf bm th q.2.2.1 q.2.2.2.1 q.2.2.2.2.1 q.2.2.2.2.2.1 q.2.2.2.2.2.2.1 q.2.2.2.2.2.2.2 pl to rd hh)) hI rfl dX6_bornBy_9 hQ
set_option maxHeartbeats 4000000 in
set_option maxRecDepth 100000 in
theorem mX6_bears (l : Launch) (G : va_G) (cy : Nat → ClassId) (g : Nat) (a : Nat → Nat) (z : bw_A1) (rows : bw_A1) (asd : bw_A1) (sm : Int32) (buf : bw_A1) (bm : Int32) (th : Int32) (od : bw_A1) (om : Int32) (ow : Int32) (ca : Int32) (bo : Int32) (la : Int32) (pl : Int32) (to : Int32) (rd : bw_A1) (hh : Int64) (p1 : Int32) (r : Int32) (z' : bw_A1) (asd' : bw_A1) (th' : Int32) (od' : bw_A1) (om' : Int32) (ow' : Int32) (ca' : Int32) (bo' : Int32) (la' : Int32) (h : fX6_bears z asd th od om ow ca bo la p1 = some (r, z', asd', th', od', om', ow', ca', bo', la')) : bw_M l yX6_bears cX6_bears 2 (some .int) 8 181 G cy g [.ref (a 0), .int p1] (bw_mW cy a z rows asd sm buf bm th od om ow ca bo la pl to rd hh) (some (.int r)) (bw_mW cy a z' rows asd' sm buf bm th' od' om' ow' ca' bo' la' pl to rd hh) := by
  refine bw_ofW (by decide +kernel) RX6 rfl (Nat.le_of_ble_eq_true rfl) ?_
  intro p e s m below meth c ls S hr hlocks hK hZ hI hl
  have hx := S.1
  have hb := S.2.1
  have hown := S.2.2.2.1
  have hts := S.2.2.2.2
  generalize va_A _ s.heap.size = A at hI hZ ⊢
  generalize hQ : MQ below _ _ s 0 0 A = Q
  have hl : lv_has ls 2 [(0, .ref (a 0)), (1, .int p1)] := hl
  unfold fX6_bears at h
  refine lv_aload_n hx hb dX6_bears_0 rfl (lv_at hl 0 rfl) ?_
  refine lv_iconst (v := 0) hx hb dX6_bears_1 rfl ?_
  refine bw_put S hK hI 0 6 (ws' := (bw_mW cy a z rows asd sm buf bm 0 od om ow ca bo la pl to rd hh)) tyX6 tyX6_ok nmX6 rfl rfl (by decide) i_X6 f_X6_28 rfl rfl rfl rfl (Nat.le_of_ble_eq_true rfl) rfl dX6_bears_2 (fun H locs hI => ?_)
  refine lv_aload_n hx hb dX6_bears_5 rfl (lv_at hl 0 rfl) ?_
  refine lv_iload_n hx hb dX6_bears_6 rfl (lv_at hl 1 rfl) ?_
  obtain ⟨r7, hc, h⟩ := bw_b1_e h
  refine bw_callV S hK hZ hI (mX6_isProject l G cy g a z rows asd sm buf bm 0 od om ow ca bo la pl to rd hh p1 r7 hc) Y_X6_isProject V_X6_isProject l_X6_123 ⟨(Nat.le_of_ble_eq_true rfl), (Nat.le_of_ble_eq_true rfl)⟩ (q0 := 0) rfl rfl rfl (ws' := (bw_mW cy a z rows asd sm buf bm 0 od om ow ca bo la pl to rd hh)) (bw_pS _) (bw_pS' _) rfl rfl hl.1 (rest := []) (st1 := [.int r7]) rfl rfl (Nat.le_of_ble_eq_true rfl) dX6_bears_7 ⟨(Nat.le_of_ble_eq_true rfl), (Nat.le_of_ble_eq_true rfl)⟩ (fun H locs hI => ?_)
  refine lv_if_eq (tgt := 21) hx hb dX6_bears_10 (by decide) (fun c_10 => ?_) (fun c_10 => ?_)
  · rw [if_pos c_10] at h
    refine lv_aload_n hx hb dX6_bears_21 rfl (lv_at hl 0 rfl) ?_
    refine lv_iconst (v := 1) hx hb dX6_bears_22 rfl ?_
    obtain ⟨r23, th_23, hc, h⟩ := bw_b2_e h
    refine bw_callV S hK hZ hI (mX6_fails l G cy g a z rows asd sm buf bm 0 od om ow ca bo la pl to rd hh 1 r23 th_23 hc) Y_X6_fails V_X6_fails l_X6_114 ⟨(Nat.le_of_ble_eq_true rfl), (Nat.le_of_ble_eq_true rfl)⟩ (q0 := 0) rfl rfl rfl (ws' := (bw_mW cy a z rows asd sm buf bm th_23 od om ow ca bo la pl to rd hh)) (bw_pS _) (bw_pS' _) rfl rfl hl.1 (rest := []) (st1 := [.int r23]) rfl rfl (Nat.le_of_ble_eq_true rfl) dX6_bears_23 ⟨(Nat.le_of_ble_eq_true rfl), (Nat.le_of_ble_eq_true rfl)⟩ (fun H locs hI => ?_)
    exact bw_iret (d := (z, asd, th_23, od, om, ow, ca, bo, la)) (rr := (r, z', asd', th', od', om', ow', ca', bo', la')) S hr hlocks h (fun q : (bw_A1 × bw_A1 × Int32 × bw_A1 × Int32 × Int32 × Int32 × Int32 × Int32) => (bw_mW cy a q.1 rows q.2.1 sm buf bm q.2.2.1 q.2.2.2.1 q.2.2.2.2.1 q.2.2.2.2.2.1 q.2.2.2.2.2.2.1 q.2.2.2.2.2.2.2.1 q.2.2.2.2.2.2.2.2 pl to rd hh)) hI rfl dX6_bears_26 hQ
  rw [if_neg c_10] at h
  refine lv_aload_n hx hb dX6_bears_13 rfl (lv_at hl 0 rfl) ?_
  refine lv_iload_n hx hb dX6_bears_14 rfl (lv_at hl 1 rfl) ?_
  obtain ⟨r15, z_15, asd_15, od_15, om_15, ow_15, ca_15, bo_15, la_15, hc, h⟩ := bw_b9_e h
  refine bw_callV S hK hZ hI (mX6_bornBy l G cy g a z rows asd sm buf bm 0 od om ow ca bo la pl to rd hh p1 r15 z_15 asd_15 od_15 om_15 ow_15 ca_15 bo_15 la_15 hc) Y_X6_bornBy V_X6_bornBy l_X6_208 ⟨(Nat.le_of_ble_eq_true rfl), (Nat.le_of_ble_eq_true rfl)⟩ (q0 := 0) rfl rfl rfl (ws' := (bw_mW cy a z_15 rows asd_15 sm buf bm 0 od_15 om_15 ow_15 ca_15 bo_15 la_15 pl to rd hh)) (bw_pS _) (bw_pS' _) rfl rfl hl.1 (rest := []) (st1 := [.int r15]) rfl rfl (Nat.le_of_ble_eq_true rfl) dX6_bears_15 ⟨(Nat.le_of_ble_eq_true rfl), (Nat.le_of_ble_eq_true rfl)⟩ (fun H locs hI => ?_)
  refine lv_goto (tgt := 26) hx hb dX6_bears_18 (by decide) ?_
  exact bw_iret (d := (z_15, asd_15, 0, od_15, om_15, ow_15, ca_15, bo_15, la_15)) (rr := (r, z', asd', th', od', om', ow', ca', bo', la')) S hr hlocks h (fun q : (bw_A1 × bw_A1 × Int32 × bw_A1 × Int32 × Int32 × Int32 × Int32 × Int32) => (bw_mW cy a q.1 rows q.2.1 sm buf bm q.2.2.1 q.2.2.2.1 q.2.2.2.2.1 q.2.2.2.2.2.1 q.2.2.2.2.2.2.1 q.2.2.2.2.2.2.2.1 q.2.2.2.2.2.2.2.2 pl to rd hh)) hI rfl dX6_bears_26 hQ
set_option maxHeartbeats 4000000 in
set_option maxRecDepth 100000 in
theorem mX6_weakestOf (l : Launch) (G : va_G) (cy : Nat → ClassId) (g : Nat) (a : Nat → Nat) (z : bw_A1) (rows : bw_A1) (asd : bw_A1) (sm : Int32) (buf : bw_A1) (bm : Int32) (th : Int32) (od : bw_A1) (om : Int32) (ow : Int32) (ca : Int32) (bo : Int32) (la : Int32) (pl : Int32) (to : Int32) (rd : bw_A1) (hh : Int64) (r : Int32) (z' : bw_A1) (asd' : bw_A1) (od' : bw_A1) (om' : Int32) (ow' : Int32) (ca' : Int32) (bo' : Int32) (la' : Int32) (h : fX6_weakestOf z asd od om ow ca bo la = some (r, z', asd', od', om', ow', ca', bo', la')) : bw_M l yX6_weakestOf cX6_weakestOf 6 (some .int) 8 181 G cy g [.ref (a 0)] (bw_mW cy a z rows asd sm buf bm th od om ow ca bo la pl to rd hh) (some (.int r)) (bw_mW cy a z' rows asd' sm buf bm th od' om' ow' ca' bo' la' pl to rd hh) := by
  refine bw_ofW (by decide +kernel) RX6 rfl (Nat.le_of_ble_eq_true rfl) ?_
  intro p e s m below meth c ls S hr hlocks hK hZ hI hl
  have hx := S.1
  have hb := S.2.1
  have hown := S.2.2.2.1
  have hts := S.2.2.2.2
  generalize va_A _ s.heap.size = A at hI hZ ⊢
  generalize hQ : MQ below _ _ s 0 0 A = Q
  have hl : lv_has ls 6 [(0, .ref (a 0))] := hl
  have j69 : ∀ (z : bw_A1) (asd : bw_A1) (od : bw_A1) (om : Int32) (ow : Int32) (ca : Int32) (bo : Int32) (la : Int32) (x1 : Int32) (x3 : Int32) (s0 : Int32) (k6 : bw_A1 → bw_A1 → bw_A1 → Int32 → Int32 → Int32 → Int32 → Int32 → Int32 → Int32 → Int32 → Option (Int32 × bw_A1 × bw_A1 × bw_A1 × Int32 × Int32 × Int32 × Int32 × Int32)) (hk6 : ∀ (H : Heap) (locs : List Loc) (ls : Array Slot) (z_ : bw_A1) (asd_ : bw_A1) (od_ : bw_A1) (om_ : Int32) (ow_ : Int32) (ca_ : Int32) (bo_ : Int32) (la_ : Int32) (x1_ : Int32) (x2_ : Int32) (x3_ : Int32), k6 z_ asd_ od_ om_ ow_ ca_ bo_ la_ x1_ x2_ x3_ = some (r, z', asd', od', om', ow', ca', bo', la') → bw_I G A s.heap (bw_mW cy a z_ rows asd_ sm buf bm th od_ om_ ow_ ca_ bo_ la_ pl to rd hh) H locs → lv_has ls 6 [(0, .ref (a 0)), (1, .int x1_), (2, .int x2_), (3, .int x3_)] → W p l e (bw_rm 8 181) s m [.ref (a 0)].toArray below meth c H locs 0 0 Q (F0 m 6 ls [])) (H : Heap) (locs : List Loc) (ls : Array Slot), jX6_weakestOf_69 k6 z asd od om ow ca bo la x1 x3 s0 = some (r, z', asd', od', om', ow', ca', bo', la') → bw_I G A s.heap (bw_mW cy a z rows asd sm buf bm th od om ow ca bo la pl to rd hh) H locs → lv_has ls 6 [(0, .ref (a 0)), (1, .int x1), (3, .int x3)] → W p l e (bw_rm 8 181) s m [.ref (a 0)].toArray below meth c H locs 0 0 Q (F0 m 69 ls [.int s0]) := by
    intro z asd od om ow ca bo la x1 x3 s0 k6 hk6 H locs ls h hI hl
    unfold jX6_weakestOf_69 at h
    refine lv_istore_n (lv' := [(2, .int s0), (0, .ref (a 0)), (1, .int x1), (3, .int x3)]) hx hb dX6_weakestOf_69 rfl hl (by decide) rfl (fun ls hl => ?_)
    obtain ⟨x3_70, e_70⟩ : ∃ y : Int32, y = x3 + 1 := ⟨_, rfl⟩
    have h := bw_let_e h e_70
    refine lv_iinc (v := x3_70) (lv' := [(3, .int x3_70), (2, .int s0), (0, .ref (a 0)), (1, .int x1)]) hx hb dX6_weakestOf_70 hl (k := 3) rfl (by rw [e_70]; rfl) (by decide) rfl (fun ls hl => ?_)
    clear e_70
    refine lv_goto (tgt := 6) hx hb dX6_weakestOf_73 (by decide) ?_
    exact hk6 _ _ _ z asd od om ow ca bo la x1 s0 x3_70 h hI (lv_sub hl [2,3,1,0] rfl)
  have j57 : ∀ (z : bw_A1) (asd : bw_A1) (od : bw_A1) (om : Int32) (ow : Int32) (ca : Int32) (bo : Int32) (la : Int32) (x2 : Int32) (x3 : Int32) (x4 : Int32) (x5 : Int32) (s0 : Int32) (k6 : bw_A1 → bw_A1 → bw_A1 → Int32 → Int32 → Int32 → Int32 → Int32 → Int32 → Int32 → Int32 → Option (Int32 × bw_A1 × bw_A1 × bw_A1 × Int32 × Int32 × Int32 × Int32 × Int32)) (hk6 : ∀ (H : Heap) (locs : List Loc) (ls : Array Slot) (z_ : bw_A1) (asd_ : bw_A1) (od_ : bw_A1) (om_ : Int32) (ow_ : Int32) (ca_ : Int32) (bo_ : Int32) (la_ : Int32) (x1_ : Int32) (x2_ : Int32) (x3_ : Int32), k6 z_ asd_ od_ om_ ow_ ca_ bo_ la_ x1_ x2_ x3_ = some (r, z', asd', od', om', ow', ca', bo', la') → bw_I G A s.heap (bw_mW cy a z_ rows asd_ sm buf bm th od_ om_ ow_ ca_ bo_ la_ pl to rd hh) H locs → lv_has ls 6 [(0, .ref (a 0)), (1, .int x1_), (2, .int x2_), (3, .int x3_)] → W p l e (bw_rm 8 181) s m [.ref (a 0)].toArray below meth c H locs 0 0 Q (F0 m 6 ls [])) (H : Heap) (locs : List Loc) (ls : Array Slot), jX6_weakestOf_57 k6 z asd od om ow ca bo la x2 x3 x4 x5 s0 = some (r, z', asd', od', om', ow', ca', bo', la') → bw_I G A s.heap (bw_mW cy a z rows asd sm buf bm th od om ow ca bo la pl to rd hh) H locs → lv_has ls 6 [(0, .ref (a 0)), (2, .int x2), (3, .int x3), (4, .int x4), (5, .int x5)] → W p l e (bw_rm 8 181) s m [.ref (a 0)].toArray below meth c H locs 0 0 Q (F0 m 57 ls [.int s0]) := by
    intro z asd od om ow ca bo la x2 x3 x4 x5 s0 k6 hk6 H locs ls h hI hl
    unfold jX6_weakestOf_57 at h
    refine lv_istore_n (lv' := [(1, .int s0), (0, .ref (a 0)), (2, .int x2), (3, .int x3), (4, .int x4), (5, .int x5)]) hx hb dX6_weakestOf_57 rfl hl (by decide) rfl (fun ls hl => ?_)
    refine lv_iload hx hb dX6_weakestOf_58 (lv_at hl 5 rfl) ?_
    refine lv_if_eq (tgt := 68) hx hb dX6_weakestOf_60 (by decide) (fun c_60 => ?_) (fun c_60 => ?_)
    · rw [if_pos c_60] at h
      refine lv_iload_n hx hb dX6_weakestOf_68 rfl (lv_at hl 2 rfl) ?_
      exact j69 z asd od om ow ca bo la s0 x3 x2 k6 hk6 _ _ _ h hI (lv_sub hl [1,0,3] rfl)
    rw [if_neg c_60] at h
    refine lv_iload hx hb dX6_weakestOf_63 (lv_at hl 4 rfl) ?_
    refine lv_goto (tgt := 69) hx hb dX6_weakestOf_65 (by decide) ?_
    exact j69 z asd od om ow ca bo la s0 x3 x4 k6 hk6 _ _ _ h hI (lv_sub hl [1,0,3] rfl)
  have j45 : ∀ (z : bw_A1) (asd : bw_A1) (od : bw_A1) (om : Int32) (ow : Int32) (ca : Int32) (bo : Int32) (la : Int32) (x1 : Int32) (x2 : Int32) (x3 : Int32) (x4 : Int32) (s0 : Int32) (k6 : bw_A1 → bw_A1 → bw_A1 → Int32 → Int32 → Int32 → Int32 → Int32 → Int32 → Int32 → Int32 → Option (Int32 × bw_A1 × bw_A1 × bw_A1 × Int32 × Int32 × Int32 × Int32 × Int32)) (hk6 : ∀ (H : Heap) (locs : List Loc) (ls : Array Slot) (z_ : bw_A1) (asd_ : bw_A1) (od_ : bw_A1) (om_ : Int32) (ow_ : Int32) (ca_ : Int32) (bo_ : Int32) (la_ : Int32) (x1_ : Int32) (x2_ : Int32) (x3_ : Int32), k6 z_ asd_ od_ om_ ow_ ca_ bo_ la_ x1_ x2_ x3_ = some (r, z', asd', od', om', ow', ca', bo', la') → bw_I G A s.heap (bw_mW cy a z_ rows asd_ sm buf bm th od_ om_ ow_ ca_ bo_ la_ pl to rd hh) H locs → lv_has ls 6 [(0, .ref (a 0)), (1, .int x1_), (2, .int x2_), (3, .int x3_)] → W p l e (bw_rm 8 181) s m [.ref (a 0)].toArray below meth c H locs 0 0 Q (F0 m 6 ls [])) (H : Heap) (locs : List Loc) (ls : Array Slot), jX6_weakestOf_45 k6 z asd od om ow ca bo la x1 x2 x3 x4 s0 = some (r, z', asd', od', om', ow', ca', bo', la') → bw_I G A s.heap (bw_mW cy a z rows asd sm buf bm th od om ow ca bo la pl to rd hh) H locs → lv_has ls 6 [(0, .ref (a 0)), (1, .int x1), (2, .int x2), (3, .int x3), (4, .int x4)] → W p l e (bw_rm 8 181) s m [.ref (a 0)].toArray below meth c H locs 0 0 Q (F0 m 45 ls [.int s0]) := by
    intro z asd od om ow ca bo la x1 x2 x3 x4 s0 k6 hk6 H locs ls h hI hl
    unfold jX6_weakestOf_45 at h
    refine lv_istore (lv' := [(5, .int s0), (0, .ref (a 0)), (1, .int x1), (2, .int x2), (3, .int x3), (4, .int x4)]) hx hb dX6_weakestOf_45 hl (by decide) rfl (fun ls hl => ?_)
    refine lv_iload hx hb dX6_weakestOf_47 (lv_at hl 0 rfl) ?_
    refine lv_if_eq (tgt := 56) hx hb dX6_weakestOf_49 (by decide) (fun c_49 => ?_) (fun c_49 => ?_)
    · rw [if_pos c_49] at h
      refine lv_iload_n hx hb dX6_weakestOf_56 rfl (lv_at hl 2 rfl) ?_
      exact j57 z asd od om ow ca bo la x2 x3 x4 s0 x1 k6 hk6 _ _ _ h hI (lv_sub hl [1,3,4,5,0] rfl)
    rw [if_neg c_49] at h
    refine lv_iload_n hx hb dX6_weakestOf_52 rfl (lv_at hl 4 rfl) ?_
    refine lv_goto (tgt := 57) hx hb dX6_weakestOf_53 (by decide) ?_
    exact j57 z asd od om ow ca bo la x2 x3 x4 s0 x3 k6 hk6 _ _ _ h hI (lv_sub hl [1,3,4,5,0] rfl)
  have j44 : ∀ (z : bw_A1) (asd : bw_A1) (od : bw_A1) (om : Int32) (ow : Int32) (ca : Int32) (bo : Int32) (la : Int32) (x1 : Int32) (x2 : Int32) (x3 : Int32) (x4 : Int32) (k6 : bw_A1 → bw_A1 → bw_A1 → Int32 → Int32 → Int32 → Int32 → Int32 → Int32 → Int32 → Int32 → Option (Int32 × bw_A1 × bw_A1 × bw_A1 × Int32 × Int32 × Int32 × Int32 × Int32)) (hk6 : ∀ (H : Heap) (locs : List Loc) (ls : Array Slot) (z_ : bw_A1) (asd_ : bw_A1) (od_ : bw_A1) (om_ : Int32) (ow_ : Int32) (ca_ : Int32) (bo_ : Int32) (la_ : Int32) (x1_ : Int32) (x2_ : Int32) (x3_ : Int32), k6 z_ asd_ od_ om_ ow_ ca_ bo_ la_ x1_ x2_ x3_ = some (r, z', asd', od', om', ow', ca', bo', la') → bw_I G A s.heap (bw_mW cy a z_ rows asd_ sm buf bm th od_ om_ ow_ ca_ bo_ la_ pl to rd hh) H locs → lv_has ls 6 [(0, .ref (a 0)), (1, .int x1_), (2, .int x2_), (3, .int x3_)] → W p l e (bw_rm 8 181) s m [.ref (a 0)].toArray below meth c H locs 0 0 Q (F0 m 6 ls [])) (H : Heap) (locs : List Loc) (ls : Array Slot), jX6_weakestOf_44 k6 z asd od om ow ca bo la x1 x2 x3 x4 = some (r, z', asd', od', om', ow', ca', bo', la') → bw_I G A s.heap (bw_mW cy a z rows asd sm buf bm th od om ow ca bo la pl to rd hh) H locs → lv_has ls 6 [(0, .ref (a 0)), (1, .int x1), (2, .int x2), (3, .int x3), (4, .int x4)] → W p l e (bw_rm 8 181) s m [.ref (a 0)].toArray below meth c H locs 0 0 Q (F0 m 44 ls []) := by
    intro z asd od om ow ca bo la x1 x2 x3 x4 k6 hk6 H locs ls h hI hl
    unfold jX6_weakestOf_44 at h
    refine lv_iconst (v := 0) hx hb dX6_weakestOf_44 rfl ?_
    exact j45 z asd od om ow ca bo la x1 x2 x3 x4 0 k6 hk6 _ _ _ h hI (lv_sub hl [0,1,2,3,4] rfl)
  have j40 : ∀ (z : bw_A1) (asd : bw_A1) (od : bw_A1) (om : Int32) (ow : Int32) (ca : Int32) (bo : Int32) (la : Int32) (x1 : Int32) (x2 : Int32) (x3 : Int32) (x4 : Int32) (k6 : bw_A1 → bw_A1 → bw_A1 → Int32 → Int32 → Int32 → Int32 → Int32 → Int32 → Int32 → Int32 → Option (Int32 × bw_A1 × bw_A1 × bw_A1 × Int32 × Int32 × Int32 × Int32 × Int32)) (hk6 : ∀ (H : Heap) (locs : List Loc) (ls : Array Slot) (z_ : bw_A1) (asd_ : bw_A1) (od_ : bw_A1) (om_ : Int32) (ow_ : Int32) (ca_ : Int32) (bo_ : Int32) (la_ : Int32) (x1_ : Int32) (x2_ : Int32) (x3_ : Int32), k6 z_ asd_ od_ om_ ow_ ca_ bo_ la_ x1_ x2_ x3_ = some (r, z', asd', od', om', ow', ca', bo', la') → bw_I G A s.heap (bw_mW cy a z_ rows asd_ sm buf bm th od_ om_ ow_ ca_ bo_ la_ pl to rd hh) H locs → lv_has ls 6 [(0, .ref (a 0)), (1, .int x1_), (2, .int x2_), (3, .int x3_)] → W p l e (bw_rm 8 181) s m [.ref (a 0)].toArray below meth c H locs 0 0 Q (F0 m 6 ls [])) (H : Heap) (locs : List Loc) (ls : Array Slot), jX6_weakestOf_40 k6 z asd od om ow ca bo la x1 x2 x3 x4 = some (r, z', asd', od', om', ow', ca', bo', la') → bw_I G A s.heap (bw_mW cy a z rows asd sm buf bm th od om ow ca bo la pl to rd hh) H locs → lv_has ls 6 [(0, .ref (a 0)), (1, .int x1), (2, .int x2), (3, .int x3), (4, .int x4)] → W p l e (bw_rm 8 181) s m [.ref (a 0)].toArray below meth c H locs 0 0 Q (F0 m 40 ls []) := by
    intro z asd od om ow ca bo la x1 x2 x3 x4 k6 hk6 H locs ls h hI hl
    unfold jX6_weakestOf_40 at h
    refine lv_iconst (v := 1) hx hb dX6_weakestOf_40 rfl ?_
    refine lv_goto (tgt := 45) hx hb dX6_weakestOf_41 (by decide) ?_
    exact j45 z asd od om ow ca bo la x1 x2 x3 x4 1 k6 hk6 _ _ _ h hI (lv_sub hl [0,1,2,3,4] rfl)
  have l6 : ∀  (n : Nat) (H : Heap) (locs : List Loc) (ls : Array Slot) (z : bw_A1) (asd : bw_A1) (od : bw_A1) (om : Int32) (ow : Int32) (ca : Int32) (bo : Int32) (la : Int32) (x1 : Int32) (x2 : Int32) (x3 : Int32), lX6_weakestOf_6  n z asd od om ow ca bo la x1 x2 x3 = some (r, z', asd', od', om', ow', ca', bo', la') → bw_I G A s.heap (bw_mW cy a z rows asd sm buf bm th od om ow ca bo la pl to rd hh) H locs → lv_has ls 6 [(0, .ref (a 0)), (1, .int x1), (2, .int x2), (3, .int x3)] → W p l e (bw_rm 8 181) s m [.ref (a 0)].toArray below meth c H locs 0 0 Q (F0 m 6 ls []) := by
    intro  n
    induction n with
    | zero => intro H locs ls z asd od om ow ca bo la x1 x2 x3 h; exact bw_none h
    | succ n ih =>
      intro H locs ls z asd od om ow ca bo la x1 x2 x3 h hI hl
      have h : bX6_weakestOf_6  (lX6_weakestOf_6  n)  z asd od om ow ca bo la x1 x2 x3 = some (r, z', asd', od', om', ow', ca', bo', la') := h
      unfold bX6_weakestOf_6 at h
      refine lv_iload_n hx hb dX6_weakestOf_6 rfl (lv_at hl 3 rfl) ?_
      refine lv_aload_n hx hb dX6_weakestOf_7 rfl (lv_at hl 0 rfl) ?_
      refine bw_get S hK hI 0 0 rfl rfl (by decide) i_X6 f_X6_7 rfl dX6_weakestOf_8 ?_
      refine lv_iconst (v := 0) hx hb dX6_weakestOf_11 rfl ?_
      obtain ⟨v12, hv, h⟩ := bw_b1_e h
      refine bw_iald hx hb hK hI 1 hv rfl dX6_weakestOf_12 ?_
      refine lv_icmp_ge (tgt := 76) hx hb dX6_weakestOf_13 (by decide) (fun c_13 => ?_) (fun c_13 => ?_)
      · rw [if_pos c_13] at h
        refine lv_iload_n hx hb dX6_weakestOf_76 rfl (lv_at hl 1 rfl) ?_
        exact bw_iret (d := (z, asd, od, om, ow, ca, bo, la)) (rr := (r, z', asd', od', om', ow', ca', bo', la')) S hr hlocks h (fun q : (bw_A1 × bw_A1 × bw_A1 × Int32 × Int32 × Int32 × Int32 × Int32) => (bw_mW cy a q.1 rows q.2.1 sm buf bm th q.2.2.1 q.2.2.2.1 q.2.2.2.2.1 q.2.2.2.2.2.1 q.2.2.2.2.2.2.1 q.2.2.2.2.2.2.2 pl to rd hh)) hI rfl dX6_weakestOf_77 hQ
      rw [if_neg c_13] at h
      refine lv_aload_n hx hb dX6_weakestOf_16 rfl (lv_at hl 0 rfl) ?_
      refine lv_iload_n hx hb dX6_weakestOf_17 rfl (lv_at hl 3 rfl) ?_
      obtain ⟨r18, z_18, asd_18, od_18, om_18, ow_18, ca_18, bo_18, la_18, hc, h⟩ := bw_b9_e h
      refine bw_callV S hK hZ hI (mX6_bornBy l G cy g a z rows asd sm buf bm th od om ow ca bo la pl to rd hh x3 r18 z_18 asd_18 od_18 om_18 ow_18 ca_18 bo_18 la_18 hc) Y_X6_bornBy V_X6_bornBy l_X6_208 ⟨(Nat.le_of_ble_eq_true rfl), (Nat.le_of_ble_eq_true rfl)⟩ (q0 := 0) rfl rfl rfl (ws' := (bw_mW cy a z_18 rows asd_18 sm buf bm th od_18 om_18 ow_18 ca_18 bo_18 la_18 pl to rd hh)) (bw_pS _) (bw_pS' _) rfl rfl hl.1 (rest := []) (st1 := [.int r18]) rfl rfl (Nat.le_of_ble_eq_true rfl) dX6_weakestOf_18 ⟨(Nat.le_of_ble_eq_true rfl), (Nat.le_of_ble_eq_true rfl)⟩ (fun H locs hI => ?_)
      refine lv_istore (lv' := [(4, .int r18), (0, .ref (a 0)), (1, .int x1), (2, .int x2), (3, .int x3)]) hx hb dX6_weakestOf_21 hl (by decide) rfl (fun ls hl => ?_)
      refine lv_iload hx hb dX6_weakestOf_23 (lv_at hl 0 rfl) ?_
      refine lv_iconst (v := (-1)) hx hb dX6_weakestOf_25 rfl ?_
      refine lv_icmp_eq (tgt := 44) hx hb dX6_weakestOf_26 (by decide) (fun c_26 => ?_) (fun c_26 => ?_)
      · rw [if_pos c_26] at h
        exact j44 z_18 asd_18 od_18 om_18 ow_18 ca_18 bo_18 la_18 x1 x2 x3 r18 (lX6_weakestOf_6  n) ih _ _ _ h hI (lv_sub hl [1,2,3,4,0] rfl)
      rw [if_neg c_26] at h
      refine lv_iload_n hx hb dX6_weakestOf_29 rfl (lv_at hl 2 rfl) ?_
      refine lv_iconst (v := (-1)) hx hb dX6_weakestOf_30 rfl ?_
      refine lv_icmp_eq (tgt := 40) hx hb dX6_weakestOf_31 (by decide) (fun c_31 => ?_) (fun c_31 => ?_)
      · rw [if_pos c_31] at h
        exact j40 z_18 asd_18 od_18 om_18 ow_18 ca_18 bo_18 la_18 x1 x2 x3 r18 (lX6_weakestOf_6  n) ih _ _ _ h hI (lv_sub hl [1,2,3,4,0] rfl)
      rw [if_neg c_31] at h
      refine lv_iload hx hb dX6_weakestOf_34 (lv_at hl 0 rfl) ?_
      refine lv_iload_n hx hb dX6_weakestOf_36 rfl (lv_at hl 3 rfl) ?_
      refine lv_icmp_ge (tgt := 44) hx hb dX6_weakestOf_37 (by decide) (fun c_37 => ?_) (fun c_37 => ?_)
      · rw [if_pos c_37] at h
        exact j44 z_18 asd_18 od_18 om_18 ow_18 ca_18 bo_18 la_18 x1 x2 x3 r18 (lX6_weakestOf_6  n) ih _ _ _ h hI (lv_sub hl [1,2,3,4,0] rfl)
      rw [if_neg c_37] at h
      exact j40 z_18 asd_18 od_18 om_18 ow_18 ca_18 bo_18 la_18 x1 x2 x3 r18 (lX6_weakestOf_6  n) ih _ _ _ h hI (lv_sub hl [1,2,3,4,0] rfl)
  unfold fX6_weakestOf at h
  refine lv_iconst (v := (-1)) hx hb dX6_weakestOf_0 rfl ?_
  refine lv_istore_n (lv' := [(1, .int (-1)), (0, .ref (a 0))]) hx hb dX6_weakestOf_1 rfl hl (by decide) rfl (fun ls hl => ?_)
  refine lv_iconst (v := 0) hx hb dX6_weakestOf_2 rfl ?_
  refine lv_istore_n (lv' := [(2, .int 0), (1, .int (-1)), (0, .ref (a 0))]) hx hb dX6_weakestOf_3 rfl hl (by decide) rfl (fun ls hl => ?_)
  refine lv_iconst (v := 0) hx hb dX6_weakestOf_4 rfl ?_
  refine lv_istore_n (lv' := [(3, .int 0), (2, .int 0), (1, .int (-1)), (0, .ref (a 0))]) hx hb dX6_weakestOf_5 rfl hl (by decide) rfl (fun ls hl => ?_)
  exact l6  bw_fu _ _ _ z asd od om ow ca bo la (-1) 0 0 h hI (lv_sub hl [3,2,1,0] rfl)
