set_option maxHeartbeats 4000000 in
set_option maxRecDepth 100000 in
theorem mX6_spent (l : Launch) (G : va_G) (cy : Nat → ClassId) (g : Nat) (a : Nat → Nat) (z : bw_A1) (rows : bw_A1) (asd : bw_A1) (sm : Int32) (buf : bw_A1) (bm : Int32) (th : Int32) (od : bw_A1) (om : Int32) (ow : Int32) (ca : Int32) (bo : Int32) (la : Int32) (pl : Int32) (to : Int32) (rd : bw_A1) (hh : Int64) (p1 : Int32) (r : Int32) (h : fX6_spent z p1 = some r) : bw_M l yX6_spent cX6_spent 4 (some .int) 1 20 G cy g [.ref (a 0), .int p1] (bw_mW cy a z rows asd sm buf bm th od om ow ca bo la pl to rd hh) (some (.int r)) (bw_mW cy a z rows asd sm buf bm th od om ow ca bo la pl to rd hh) := by
  refine bw_ofW (by decide +kernel) RX6 rfl (Nat.le_of_ble_eq_true rfl) ?_
  intro p e s m below meth c ls S hr hlocks hK hZ hI hl
  have hx := S.1
  have hb := S.2.1
  have hown := S.2.2.2.1
  have hts := S.2.2.2.2
  generalize va_A _ s.heap.size = A at hI hZ ⊢
  generalize hQ : MQ below _ _ s 0 0 A = Q
  have hl : lv_has ls 4 [(0, .ref (a 0)), (1, .int p1)] := hl
  have l4 : ∀ (x1 : Int32) (n : Nat) (H : Heap) (locs : List Loc) (ls : Array Slot) (x2 : Int32) (x3 : Int32), lX6_spent_4 z x1 n x2 x3 = some r → bw_I G A s.heap (bw_mW cy a z rows asd sm buf bm th od om ow ca bo la pl to rd hh) H locs → lv_has ls 4 [(0, .ref (a 0)), (1, .int x1), (2, .int x2), (3, .int x3)] → W p l e (bw_rm 1 20) s m [.ref (a 0), .int p1].toArray below meth c H locs 0 0 Q (F0 m 4 ls []) := by
    intro x1 n
    induction n with
    | zero => intro H locs ls x2 x3 h; exact bw_none h
    | succ n ih =>
      intro H locs ls x2 x3 h hI hl
      have h : bX6_spent_4  (lX6_spent_4 z x1 n) z x1 x2 x3 = some r := h
      unfold bX6_spent_4 at h
      refine lv_iload_n hx hb dX6_spent_4 rfl (lv_at hl 3 rfl) ?_
      refine lv_aload_n hx hb dX6_spent_5 rfl (lv_at hl 0 rfl) ?_
      refine bw_get S hK hI 0 0 rfl rfl (by decide) i_X6 f_X6_7 rfl dX6_spent_6 ?_
      refine lv_iload_n hx hb dX6_spent_9 rfl (lv_at hl 1 rfl) ?_
      obtain ⟨r10, hc, h⟩ := bw_b1_e h
      refine bw_callP S hK hZ hI (mX6_at l G cy g x1 r10 hc) Y_X6_at V_X6_at l_X6_39 ⟨(Nat.le_of_ble_eq_true rfl), (Nat.le_of_ble_eq_true rfl)⟩ (rest := [.ref (a 1), .int x3]) (st1 := [.int r10, .ref (a 1), .int x3]) rfl hl.1 rfl rfl (Nat.le_of_ble_eq_true rfl) dX6_spent_10 ⟨(Nat.le_of_ble_eq_true rfl), (Nat.le_of_ble_eq_true rfl)⟩ (fun H locs hI => ?_)
      refine lv_bipush (v := 6) hx hb dX6_spent_13 (by decide) ?_
      refine lv_iadd hx hb dX6_spent_15 ?_
      obtain ⟨v16, hv, h⟩ := bw_b1_e h
      refine bw_iald hx hb hK hI 1 hv rfl dX6_spent_16 ?_
      refine lv_icmp_ge (tgt := 43) hx hb dX6_spent_17 (by decide) (fun c_17 => ?_) (fun c_17 => ?_)
      · rw [if_pos c_17] at h
        refine lv_iload_n hx hb dX6_spent_43 rfl (lv_at hl 2 rfl) ?_
        exact bw_iretP S hr hlocks h hI rfl dX6_spent_44 hQ
      rw [if_neg c_17] at h
      refine lv_iload_n hx hb dX6_spent_20 rfl (lv_at hl 2 rfl) ?_
      refine lv_aload_n hx hb dX6_spent_21 rfl (lv_at hl 0 rfl) ?_
      refine bw_get S hK hI 0 0 rfl rfl (by decide) i_X6 f_X6_7 rfl dX6_spent_22 ?_
      refine lv_iload_n hx hb dX6_spent_25 rfl (lv_at hl 1 rfl) ?_
      obtain ⟨r26, hc, h⟩ := bw_b1_e h
      refine bw_callP S hK hZ hI (mX6_at l G cy g x1 r26 hc) Y_X6_at V_X6_at l_X6_39 ⟨(Nat.le_of_ble_eq_true rfl), (Nat.le_of_ble_eq_true rfl)⟩ (rest := [.ref (a 1), .int x2]) (st1 := [.int r26, .ref (a 1), .int x2]) rfl hl.1 rfl rfl (Nat.le_of_ble_eq_true rfl) dX6_spent_26 ⟨(Nat.le_of_ble_eq_true rfl), (Nat.le_of_ble_eq_true rfl)⟩ (fun H locs hI => ?_)
      refine lv_bipush (v := 18) hx hb dX6_spent_29 (by decide) ?_
      refine lv_iadd hx hb dX6_spent_31 ?_
      refine lv_iload_n hx hb dX6_spent_32 rfl (lv_at hl 3 rfl) ?_
      refine lv_iadd hx hb dX6_spent_33 ?_
      obtain ⟨v34, hv, h⟩ := bw_b1_e h
      refine bw_iald hx hb hK hI 1 hv rfl dX6_spent_34 ?_
      refine lv_iadd hx hb dX6_spent_35 ?_
      refine lv_topi (fun x2_36 e_36 => ?_)
      have h := bw_let_e h e_36
      clear e_36
      refine lv_istore_n (lv' := [(2, .int x2_36), (0, .ref (a 0)), (1, .int x1), (3, .int x3)]) hx hb dX6_spent_36 rfl hl (by decide) rfl (fun ls hl => ?_)
      obtain ⟨x3_37, e_37⟩ : ∃ y : Int32, y = x3 + 1 := ⟨_, rfl⟩
      have h := bw_let_e h e_37
      refine lv_iinc (v := x3_37) (lv' := [(3, .int x3_37), (2, .int x2_36), (0, .ref (a 0)), (1, .int x1)]) hx hb dX6_spent_37 hl (k := 3) rfl (by rw [e_37]; rfl) (by decide) rfl (fun ls hl => ?_)
      clear e_37
      refine lv_goto (tgt := 4) hx hb dX6_spent_40 (by decide) ?_
      exact ih _ _ _ x2_36 x3_37 h hI (lv_sub hl [2,3,1,0] rfl)
  unfold fX6_spent at h
  refine lv_iconst (v := 0) hx hb dX6_spent_0 rfl ?_
  refine lv_istore_n (lv' := [(2, .int 0), (0, .ref (a 0)), (1, .int p1)]) hx hb dX6_spent_1 rfl hl (by decide) rfl (fun ls hl => ?_)
  refine lv_iconst (v := 0) hx hb dX6_spent_2 rfl ?_
  refine lv_istore_n (lv' := [(3, .int 0), (2, .int 0), (0, .ref (a 0)), (1, .int p1)]) hx hb dX6_spent_3 rfl hl (by decide) rfl (fun ls hl => ?_)
  exact l4 p1 bw_fu _ _ _ 0 0 h hI (lv_sub hl [2,3,1,0] rfl)
set_option maxHeartbeats 4000000 in
set_option maxRecDepth 100000 in
theorem mX6_projectOf (l : Launch) (G : va_G) (cy : Nat → ClassId) (g : Nat) (a : Nat → Nat) (z : bw_A1) (rows : bw_A1) (asd : bw_A1) (sm : Int32) (buf : bw_A1) (bm : Int32) (th : Int32) (od : bw_A1) (om : Int32) (ow : Int32) (ca : Int32) (bo : Int32) (la : Int32) (pl : Int32) (to : Int32) (rd : bw_A1) (hh : Int64) (p1 : Int32) (p2 : Int32) (r : Int32) (h : fX6_projectOf z p1 p2 = some r) : bw_M l yX6_projectOf cX6_projectOf 4 (some .int) 3 64 G cy g [.ref (a 0), .int p1, .int p2] (bw_mW cy a z rows asd sm buf bm th od om ow ca bo la pl to rd hh) (some (.int r)) (bw_mW cy a z rows asd sm buf bm th od om ow ca bo la pl to rd hh) := by
  refine bw_ofW (by decide +kernel) RX6 rfl (Nat.le_of_ble_eq_true rfl) ?_
  intro p e s m below meth c ls S hr hlocks hK hZ hI hl
  have hx := S.1
  have hb := S.2.1
  have hown := S.2.2.2.1
  have hts := S.2.2.2.2
  generalize va_A _ s.heap.size = A at hI hZ ⊢
  generalize hQ : MQ below _ _ s 0 0 A = Q
  have hl : lv_has ls 4 [(0, .ref (a 0)), (1, .int p1), (2, .int p2)] := hl
  have j76 : ∀ (x2 : Int32) (x3 : Int32) (H : Heap) (locs : List Loc) (ls : Array Slot), jX6_projectOf_76 z x2 x3 = some r → bw_I G A s.heap (bw_mW cy a z rows asd sm buf bm th od om ow ca bo la pl to rd hh) H locs → lv_has ls 4 [(0, .ref (a 0)), (2, .int x2), (3, .int x3)] → W p l e (bw_rm 3 64) s m [.ref (a 0), .int p1, .int p2].toArray below meth c H locs 0 0 Q (F0 m 76 ls []) := by
    intro x2 x3 H locs ls h hI hl
    unfold jX6_projectOf_76 at h
    refine lv_aload_n hx hb dX6_projectOf_76 rfl (lv_at hl 0 rfl) ?_
    refine bw_get S hK hI 0 0 rfl rfl (by decide) i_X6 f_X6_7 rfl dX6_projectOf_77 ?_
    refine lv_iload_n hx hb dX6_projectOf_80 rfl (lv_at hl 2 rfl) ?_
    refine lv_iload_n hx hb dX6_projectOf_81 rfl (lv_at hl 1 rfl) ?_
    refine lv_iadd hx hb dX6_projectOf_82 ?_
    obtain ⟨v83, hv, h⟩ := bw_b1_e h
    refine bw_iald hx hb hK hI 1 hv rfl dX6_projectOf_83 ?_
    exact bw_iretP S hr hlocks h hI rfl dX6_projectOf_84 hQ
  unfold fX6_projectOf at h
  refine lv_iload_n hx hb dX6_projectOf_0 rfl (lv_at hl 1 rfl) ?_
  obtain ⟨r1, hc, h⟩ := bw_b1_e h
  refine bw_callP S hK hZ hI (mX6_at l G cy g p1 r1 hc) Y_X6_at V_X6_at l_X6_39 ⟨(Nat.le_of_ble_eq_true rfl), (Nat.le_of_ble_eq_true rfl)⟩ (rest := []) (st1 := [.int r1]) rfl hl.1 rfl rfl (Nat.le_of_ble_eq_true rfl) dX6_projectOf_1 ⟨(Nat.le_of_ble_eq_true rfl), (Nat.le_of_ble_eq_true rfl)⟩ (fun H locs hI => ?_)
  refine lv_istore_n (lv' := [(3, .int r1), (0, .ref (a 0)), (1, .int p1), (2, .int p2)]) hx hb dX6_projectOf_4 rfl hl (by decide) rfl (fun ls hl => ?_)
  refine lv_iload_n hx hb dX6_projectOf_5 rfl (lv_at hl 3 rfl) ?_
  by_cases c_6_0 : p2 = 0
  · rw [if_pos c_6_0] at h
    refine lv_tableIn (tgt := 76) hx hb dX6_projectOf_6 (by rw [c_6_0]; decide) (by rw [c_6_0]; decide) (by rw [c_6_0]; rfl) (by decide) ?_
    exact j76 p2 r1 _ _ _ h hI (lv_sub hl [1,3,0] rfl)
  rw [if_neg c_6_0] at h
  by_cases c_6_1 : p2 = 1
  · rw [if_pos c_6_1] at h
    refine lv_tableIn (tgt := 76) hx hb dX6_projectOf_6 (by rw [c_6_1]; decide) (by rw [c_6_1]; decide) (by rw [c_6_1]; rfl) (by decide) ?_
    exact j76 p2 r1 _ _ _ h hI (lv_sub hl [1,3,0] rfl)
  rw [if_neg c_6_1] at h
  by_cases c_6_2 : p2 = 2
  · rw [if_pos c_6_2] at h
    refine lv_tableIn (tgt := 76) hx hb dX6_projectOf_6 (by rw [c_6_2]; decide) (by rw [c_6_2]; decide) (by rw [c_6_2]; rfl) (by decide) ?_
    exact j76 p2 r1 _ _ _ h hI (lv_sub hl [1,3,0] rfl)
  rw [if_neg c_6_2] at h
  by_cases c_6_3 : p2 = 3
  · rw [if_pos c_6_3] at h
    refine lv_tableIn (tgt := 76) hx hb dX6_projectOf_6 (by rw [c_6_3]; decide) (by rw [c_6_3]; decide) (by rw [c_6_3]; rfl) (by decide) ?_
    exact j76 p2 r1 _ _ _ h hI (lv_sub hl [1,3,0] rfl)
  rw [if_neg c_6_3] at h
  by_cases c_6_4 : p2 = 4
  · rw [if_pos c_6_4] at h
    refine lv_tableIn (tgt := 85) hx hb dX6_projectOf_6 (by rw [c_6_4]; decide) (by rw [c_6_4]; decide) (by rw [c_6_4]; rfl) (by decide) ?_
    refine lv_aload_n hx hb dX6_projectOf_85 rfl (lv_at hl 1 rfl) ?_
    refine lv_iload_n hx hb dX6_projectOf_86 rfl (lv_at hl 2 rfl) ?_
    obtain ⟨r87, hc, h⟩ := bw_b1_e h
    refine bw_callV S hK hZ hI (mX6_owedBy l G cy g a z rows asd sm buf bm th od om ow ca bo la pl to rd hh p1 r87 hc) Y_X6_owedBy V_X6_owedBy l_X6_170 ⟨(Nat.le_of_ble_eq_true rfl), (Nat.le_of_ble_eq_true rfl)⟩ (q0 := 0) rfl rfl rfl (ws' := (bw_mW cy a z rows asd sm buf bm th od om ow ca bo la pl to rd hh)) (bw_pS _) (bw_pS' _) rfl rfl hl.1 (rest := []) (st1 := [.int r87]) rfl rfl (Nat.le_of_ble_eq_true rfl) dX6_projectOf_87 ⟨(Nat.le_of_ble_eq_true rfl), (Nat.le_of_ble_eq_true rfl)⟩ (fun H locs hI => ?_)
    exact bw_iretP S hr hlocks h hI rfl dX6_projectOf_90 hQ
  rw [if_neg c_6_4] at h
  by_cases c_6_5 : p2 = 5
  · rw [if_pos c_6_5] at h
    refine lv_tableIn (tgt := 91) hx hb dX6_projectOf_6 (by rw [c_6_5]; decide) (by rw [c_6_5]; decide) (by rw [c_6_5]; rfl) (by decide) ?_
    refine lv_aload_n hx hb dX6_projectOf_91 rfl (lv_at hl 1 rfl) ?_
    refine lv_iload_n hx hb dX6_projectOf_92 rfl (lv_at hl 2 rfl) ?_
    obtain ⟨r93, hc, h⟩ := bw_b1_e h
    refine bw_callV S hK hZ hI (mX6_lentBy l G cy g a z rows asd sm buf bm th od om ow ca bo la pl to rd hh p1 r93 hc) Y_X6_lentBy V_X6_lentBy l_X6_71 ⟨(Nat.le_of_ble_eq_true rfl), (Nat.le_of_ble_eq_true rfl)⟩ (q0 := 0) rfl rfl rfl (ws' := (bw_mW cy a z rows asd sm buf bm th od om ow ca bo la pl to rd hh)) (bw_pS _) (bw_pS' _) rfl rfl hl.1 (rest := []) (st1 := [.int r93]) rfl rfl (Nat.le_of_ble_eq_true rfl) dX6_projectOf_93 ⟨(Nat.le_of_ble_eq_true rfl), (Nat.le_of_ble_eq_true rfl)⟩ (fun H locs hI => ?_)
    exact bw_iretP S hr hlocks h hI rfl dX6_projectOf_96 hQ
  rw [if_neg c_6_5] at h
  by_cases c_6_6 : p2 = 6
  · rw [if_pos c_6_6] at h
    refine lv_tableIn (tgt := 97) hx hb dX6_projectOf_6 (by rw [c_6_6]; decide) (by rw [c_6_6]; decide) (by rw [c_6_6]; rfl) (by decide) ?_
    refine lv_aload_n hx hb dX6_projectOf_97 rfl (lv_at hl 1 rfl) ?_
    refine bw_get S hK hI 0 0 rfl rfl (by decide) i_X6 f_X6_7 rfl dX6_projectOf_98 ?_
    refine lv_iload_n hx hb dX6_projectOf_101 rfl (lv_at hl 0 rfl) ?_
    refine lv_iconst (v := 4) hx hb dX6_projectOf_102 rfl ?_
    refine lv_iadd hx hb dX6_projectOf_103 ?_
    obtain ⟨v104, hv, h⟩ := bw_b1_e h
    refine bw_iald hx hb hK hI 1 hv rfl dX6_projectOf_104 ?_
    exact bw_iretP S hr hlocks h hI rfl dX6_projectOf_105 hQ
  rw [if_neg c_6_6] at h
  by_cases c_6_7 : p2 = 7
  · rw [if_pos c_6_7] at h
    refine lv_tableIn (tgt := 106) hx hb dX6_projectOf_6 (by rw [c_6_7]; decide) (by rw [c_6_7]; decide) (by rw [c_6_7]; rfl) (by decide) ?_
    refine lv_aload_n hx hb dX6_projectOf_106 rfl (lv_at hl 1 rfl) ?_
    refine bw_get S hK hI 0 0 rfl rfl (by decide) i_X6 f_X6_7 rfl dX6_projectOf_107 ?_
    refine lv_iload_n hx hb dX6_projectOf_110 rfl (lv_at hl 0 rfl) ?_
    refine lv_iconst (v := 5) hx hb dX6_projectOf_111 rfl ?_
    refine lv_iadd hx hb dX6_projectOf_112 ?_
    obtain ⟨v113, hv, h⟩ := bw_b1_e h
    refine bw_iald hx hb hK hI 1 hv rfl dX6_projectOf_113 ?_
    exact bw_iretP S hr hlocks h hI rfl dX6_projectOf_114 hQ
  rw [if_neg c_6_7] at h
  by_cases c_6_8 : p2 = 8
  · rw [if_pos c_6_8] at h
    refine lv_tableIn (tgt := 115) hx hb dX6_projectOf_6 (by rw [c_6_8]; decide) (by rw [c_6_8]; decide) (by rw [c_6_8]; rfl) (by decide) ?_
    refine lv_aload_n hx hb dX6_projectOf_115 rfl (lv_at hl 1 rfl) ?_
    refine bw_get S hK hI 0 0 rfl rfl (by decide) i_X6 f_X6_7 rfl dX6_projectOf_116 ?_
    refine lv_iload_n hx hb dX6_projectOf_119 rfl (lv_at hl 0 rfl) ?_
    refine lv_bipush (v := 6) hx hb dX6_projectOf_120 (by decide) ?_
    refine lv_iadd hx hb dX6_projectOf_122 ?_
    obtain ⟨v123, hv, h⟩ := bw_b1_e h
    refine bw_iald hx hb hK hI 1 hv rfl dX6_projectOf_123 ?_
    exact bw_iretP S hr hlocks h hI rfl dX6_projectOf_124 hQ
  rw [if_neg c_6_8] at h
  by_cases c_6_9 : p2 = 9
  · rw [if_pos c_6_9] at h
    refine lv_tableIn (tgt := 125) hx hb dX6_projectOf_6 (by rw [c_6_9]; decide) (by rw [c_6_9]; decide) (by rw [c_6_9]; rfl) (by decide) ?_
    refine lv_aload_n hx hb dX6_projectOf_125 rfl (lv_at hl 1 rfl) ?_
    refine bw_get S hK hI 0 0 rfl rfl (by decide) i_X6 f_X6_7 rfl dX6_projectOf_126 ?_
    refine lv_iload_n hx hb dX6_projectOf_129 rfl (lv_at hl 0 rfl) ?_
    refine lv_bipush (v := 7) hx hb dX6_projectOf_130 (by decide) ?_
    refine lv_iadd hx hb dX6_projectOf_132 ?_
    obtain ⟨v133, hv, h⟩ := bw_b1_e h
    refine bw_iald hx hb hK hI 1 hv rfl dX6_projectOf_133 ?_
    exact bw_iretP S hr hlocks h hI rfl dX6_projectOf_134 hQ
  rw [if_neg c_6_9] at h
  by_cases c_6_10 : p2 = 10
  · rw [if_pos c_6_10] at h
    refine lv_tableIn (tgt := 135) hx hb dX6_projectOf_6 (by rw [c_6_10]; decide) (by rw [c_6_10]; decide) (by rw [c_6_10]; rfl) (by decide) ?_
    refine lv_aload_n hx hb dX6_projectOf_135 rfl (lv_at hl 1 rfl) ?_
    refine bw_get S hK hI 0 0 rfl rfl (by decide) i_X6 f_X6_7 rfl dX6_projectOf_136 ?_
    refine lv_iload_n hx hb dX6_projectOf_139 rfl (lv_at hl 0 rfl) ?_
    refine lv_bipush (v := 8) hx hb dX6_projectOf_140 (by decide) ?_
    refine lv_iadd hx hb dX6_projectOf_142 ?_
    obtain ⟨v143, hv, h⟩ := bw_b1_e h
    refine bw_iald hx hb hK hI 1 hv rfl dX6_projectOf_143 ?_
    exact bw_iretP S hr hlocks h hI rfl dX6_projectOf_144 hQ
  rw [if_neg c_6_10] at h
  by_cases c_6_11 : p2 = 11
  · rw [if_pos c_6_11] at h
    refine lv_tableIn (tgt := 145) hx hb dX6_projectOf_6 (by rw [c_6_11]; decide) (by rw [c_6_11]; decide) (by rw [c_6_11]; rfl) (by decide) ?_
    refine lv_aload_n hx hb dX6_projectOf_145 rfl (lv_at hl 1 rfl) ?_
    refine bw_get S hK hI 0 0 rfl rfl (by decide) i_X6 f_X6_7 rfl dX6_projectOf_146 ?_
    refine lv_iload_n hx hb dX6_projectOf_149 rfl (lv_at hl 0 rfl) ?_
    refine lv_bipush (v := 9) hx hb dX6_projectOf_150 (by decide) ?_
    refine lv_iadd hx hb dX6_projectOf_152 ?_
    obtain ⟨v153, hv, h⟩ := bw_b1_e h
    refine bw_iald hx hb hK hI 1 hv rfl dX6_projectOf_153 ?_
    exact bw_iretP S hr hlocks h hI rfl dX6_projectOf_154 hQ
  rw [if_neg c_6_11] at h
  by_cases c_6_12 : p2 = 12
  · rw [if_pos c_6_12] at h
    refine lv_tableIn (tgt := 155) hx hb dX6_projectOf_6 (by rw [c_6_12]; decide) (by rw [c_6_12]; decide) (by rw [c_6_12]; rfl) (by decide) ?_
    refine lv_aload_n hx hb dX6_projectOf_155 rfl (lv_at hl 1 rfl) ?_
    refine lv_iload_n hx hb dX6_projectOf_156 rfl (lv_at hl 2 rfl) ?_
    obtain ⟨r157, hc, h⟩ := bw_b1_e h
    refine bw_callV S hK hZ hI (mX6_planned l G cy g a z rows asd sm buf bm th od om ow ca bo la pl to rd hh p1 r157 hc) Y_X6_planned V_X6_planned l_X6_173 ⟨(Nat.le_of_ble_eq_true rfl), (Nat.le_of_ble_eq_true rfl)⟩ (q0 := 0) rfl rfl rfl (ws' := (bw_mW cy a z rows asd sm buf bm th od om ow ca bo la pl to rd hh)) (bw_pS _) (bw_pS' _) rfl rfl hl.1 (rest := []) (st1 := [.int r157]) rfl rfl (Nat.le_of_ble_eq_true rfl) dX6_projectOf_157 ⟨(Nat.le_of_ble_eq_true rfl), (Nat.le_of_ble_eq_true rfl)⟩ (fun H locs hI => ?_)
    exact bw_iretP S hr hlocks h hI rfl dX6_projectOf_160 hQ
  rw [if_neg c_6_12] at h
  by_cases c_6_13 : p2 = 13
  · rw [if_pos c_6_13] at h
    refine lv_tableIn (tgt := 161) hx hb dX6_projectOf_6 (by rw [c_6_13]; decide) (by rw [c_6_13]; decide) (by rw [c_6_13]; rfl) (by decide) ?_
    refine lv_aload_n hx hb dX6_projectOf_161 rfl (lv_at hl 1 rfl) ?_
    refine lv_iload_n hx hb dX6_projectOf_162 rfl (lv_at hl 2 rfl) ?_
    obtain ⟨r163, hc, h⟩ := bw_b1_e h
    refine bw_callV S hK hZ hI (mX6_spent l G cy g a z rows asd sm buf bm th od om ow ca bo la pl to rd hh p1 r163 hc) Y_X6_spent V_X6_spent l_X6_176 ⟨(Nat.le_of_ble_eq_true rfl), (Nat.le_of_ble_eq_true rfl)⟩ (q0 := 0) rfl rfl rfl (ws' := (bw_mW cy a z rows asd sm buf bm th od om ow ca bo la pl to rd hh)) (bw_pS _) (bw_pS' _) rfl rfl hl.1 (rest := []) (st1 := [.int r163]) rfl rfl (Nat.le_of_ble_eq_true rfl) dX6_projectOf_163 ⟨(Nat.le_of_ble_eq_true rfl), (Nat.le_of_ble_eq_true rfl)⟩ (fun H locs hI => ?_)
    exact bw_iretP S hr hlocks h hI rfl dX6_projectOf_166 hQ
  rw [if_neg c_6_13] at h
  have t_0 := bw_nei c_6_0
  have t_1 := bw_nei c_6_1
  have t_2 := bw_nei c_6_2
  have t_3 := bw_nei c_6_3
  have t_4 := bw_nei c_6_4
  have t_5 := bw_nei c_6_5
  have t_6 := bw_nei c_6_6
  have t_7 := bw_nei c_6_7
  have t_8 := bw_nei c_6_8
  have t_9 := bw_nei c_6_9
  have t_10 := bw_nei c_6_10
  have t_11 := bw_nei c_6_11
  have t_12 := bw_nei c_6_12
  have t_13 := bw_nei c_6_13
  refine lv_tableOut (tgt := 167) hx hb dX6_projectOf_6 (bw_out14 t_0 t_1 t_2 t_3 t_4 t_5 t_6 t_7 t_8 t_9 t_10 t_11 t_12 t_13) (by decide) ?_
  refine lv_aload_n hx hb dX6_projectOf_167 rfl (lv_at hl 1 rfl) ?_
  refine lv_iload_n hx hb dX6_projectOf_168 rfl (lv_at hl 2 rfl) ?_
  obtain ⟨r169, hc, h⟩ := bw_b1_e h
  refine bw_callV S hK hZ hI (mX6_canLend l G cy g a z rows asd sm buf bm th od om ow ca bo la pl to rd hh p1 r169 hc) Y_X6_canLend V_X6_canLend l_X6_68 ⟨(Nat.le_of_ble_eq_true rfl), (Nat.le_of_ble_eq_true rfl)⟩ (q0 := 0) rfl rfl rfl (ws' := (bw_mW cy a z rows asd sm buf bm th od om ow ca bo la pl to rd hh)) (bw_pS _) (bw_pS' _) rfl rfl hl.1 (rest := []) (st1 := [.int r169]) rfl rfl (Nat.le_of_ble_eq_true rfl) dX6_projectOf_169 ⟨(Nat.le_of_ble_eq_true rfl), (Nat.le_of_ble_eq_true rfl)⟩ (fun H locs hI => ?_)
  exact bw_iretP S hr hlocks h hI rfl dX6_projectOf_172 hQ
set_option maxHeartbeats 4000000 in
set_option maxRecDepth 100000 in
theorem mX6_project (l : Launch) (G : va_G) (cy : Nat → ClassId) (g : Nat) (a : Nat → Nat) (z : bw_A1) (rows : bw_A1) (asd : bw_A1) (sm : Int32) (buf : bw_A1) (bm : Int32) (th : Int32) (od : bw_A1) (om : Int32) (ow : Int32) (ca : Int32) (bo : Int32) (la : Int32) (pl : Int32) (to : Int32) (rd : bw_A1) (hh : Int64) (p1 : Int32) (p2 : Int32) (r : Int32) (th' : Int32) (h : fX6_project z th p1 p2 = some (r, th')) : bw_M l yX6_project cX6_project 3 (some .int) 4 87 G cy g [.ref (a 0), .int p1, .int p2] (bw_mW cy a z rows asd sm buf bm th od om ow ca bo la pl to rd hh) (some (.int r)) (bw_mW cy a z rows asd sm buf bm th' od om ow ca bo la pl to rd hh) := by
  refine bw_ofW (by decide +kernel) RX6 rfl (Nat.le_of_ble_eq_true rfl) ?_
  intro p e s m below meth c ls S hr hlocks hK hZ hI hl
  have hx := S.1
  have hb := S.2.1
  have hown := S.2.2.2.1
  have hts := S.2.2.2.2
  generalize va_A _ s.heap.size = A at hI hZ ⊢
  generalize hQ : MQ below _ _ s 0 0 A = Q
  have hl : lv_has ls 3 [(0, .ref (a 0)), (1, .int p1), (2, .int p2)] := hl
  unfold fX6_project at h
  refine lv_aload_n hx hb dX6_project_0 rfl (lv_at hl 0 rfl) ?_
  refine lv_iconst (v := 0) hx hb dX6_project_1 rfl ?_
  refine bw_put S hK hI 0 6 (ws' := (bw_mW cy a z rows asd sm buf bm 0 od om ow ca bo la pl to rd hh)) tyX6 tyX6_ok nmX6 rfl rfl (by decide) i_X6 f_X6_28 rfl rfl rfl rfl (Nat.le_of_ble_eq_true rfl) rfl dX6_project_2 (fun H locs hI => ?_)
  refine lv_aload_n hx hb dX6_project_5 rfl (lv_at hl 0 rfl) ?_
  refine lv_iload_n hx hb dX6_project_6 rfl (lv_at hl 1 rfl) ?_
  obtain ⟨r7, hc, h⟩ := bw_b1_e h
  refine bw_callV S hK hZ hI (mX6_isProject l G cy g a z rows asd sm buf bm 0 od om ow ca bo la pl to rd hh p1 r7 hc) Y_X6_isProject V_X6_isProject l_X6_123 ⟨(Nat.le_of_ble_eq_true rfl), (Nat.le_of_ble_eq_true rfl)⟩ (q0 := 0) rfl rfl rfl (ws' := (bw_mW cy a z rows asd sm buf bm 0 od om ow ca bo la pl to rd hh)) (bw_pS _) (bw_pS' _) rfl rfl hl.1 (rest := []) (st1 := [.int r7]) rfl rfl (Nat.le_of_ble_eq_true rfl) dX6_project_7 ⟨(Nat.le_of_ble_eq_true rfl), (Nat.le_of_ble_eq_true rfl)⟩ (fun H locs hI => ?_)
  refine lv_if_ne (tgt := 19) hx hb dX6_project_10 (by decide) (fun c_10 => ?_) (fun c_10 => ?_)
  · rw [if_neg c_10] at h
    refine lv_iload_n hx hb dX6_project_19 rfl (lv_at hl 2 rfl) ?_
    refine lv_iconst (v := 0) hx hb dX6_project_20 rfl ?_
    refine lv_bipush (v := 14) hx hb dX6_project_21 (by decide) ?_
    obtain ⟨r23, hc, h⟩ := bw_b1_e h
    refine bw_callP S hK hZ hI (mX6_in l G cy g p2 0 14 r23 hc) Y_X6_in V_X6_in l_X6_35 ⟨(Nat.le_of_ble_eq_true rfl), (Nat.le_of_ble_eq_true rfl)⟩ (rest := []) (st1 := [.int r23]) rfl hl.1 rfl rfl (Nat.le_of_ble_eq_true rfl) dX6_project_23 ⟨(Nat.le_of_ble_eq_true rfl), (Nat.le_of_ble_eq_true rfl)⟩ (fun H locs hI => ?_)
    refine lv_if_eq (tgt := 38) hx hb dX6_project_26 (by decide) (fun c_26 => ?_) (fun c_26 => ?_)
    · rw [if_pos c_26] at h
      refine lv_aload_n hx hb dX6_project_38 rfl (lv_at hl 0 rfl) ?_
      refine lv_iconst (v := 2) hx hb dX6_project_39 rfl ?_
      obtain ⟨r40, th_40, hc, h⟩ := bw_b2_e h
      refine bw_callV S hK hZ hI (mX6_fails l G cy g a z rows asd sm buf bm 0 od om ow ca bo la pl to rd hh 2 r40 th_40 hc) Y_X6_fails V_X6_fails l_X6_114 ⟨(Nat.le_of_ble_eq_true rfl), (Nat.le_of_ble_eq_true rfl)⟩ (q0 := 0) rfl rfl rfl (ws' := (bw_mW cy a z rows asd sm buf bm th_40 od om ow ca bo la pl to rd hh)) (bw_pS _) (bw_pS' _) rfl rfl hl.1 (rest := []) (st1 := [.int r40]) rfl rfl (Nat.le_of_ble_eq_true rfl) dX6_project_40 ⟨(Nat.le_of_ble_eq_true rfl), (Nat.le_of_ble_eq_true rfl)⟩ (fun H locs hI => ?_)
      exact bw_iret (d := th_40) (rr := (r, th')) S hr hlocks h (fun q : Int32 => (bw_mW cy a z rows asd sm buf bm q od om ow ca bo la pl to rd hh)) hI rfl dX6_project_43 hQ
    rw [if_neg c_26] at h
    refine lv_aload_n hx hb dX6_project_29 rfl (lv_at hl 0 rfl) ?_
    refine lv_iload_n hx hb dX6_project_30 rfl (lv_at hl 1 rfl) ?_
    refine lv_iload_n hx hb dX6_project_31 rfl (lv_at hl 2 rfl) ?_
    obtain ⟨r32, hc, h⟩ := bw_b1_e h
    refine bw_callV S hK hZ hI (mX6_projectOf l G cy g a z rows asd sm buf bm 0 od om ow ca bo la pl to rd hh p1 p2 r32 hc) Y_X6_projectOf V_X6_projectOf l_X6_179 ⟨(Nat.le_of_ble_eq_true rfl), (Nat.le_of_ble_eq_true rfl)⟩ (q0 := 0) rfl rfl rfl (ws' := (bw_mW cy a z rows asd sm buf bm 0 od om ow ca bo la pl to rd hh)) (bw_pS _) (bw_pS' _) rfl rfl hl.1 (rest := []) (st1 := [.int r32]) rfl rfl (Nat.le_of_ble_eq_true rfl) dX6_project_32 ⟨(Nat.le_of_ble_eq_true rfl), (Nat.le_of_ble_eq_true rfl)⟩ (fun H locs hI => ?_)
    refine lv_goto (tgt := 43) hx hb dX6_project_35 (by decide) ?_
    exact bw_iret (d := 0) (rr := (r, th')) S hr hlocks h (fun q : Int32 => (bw_mW cy a z rows asd sm buf bm q od om ow ca bo la pl to rd hh)) hI rfl dX6_project_43 hQ
  rw [if_pos c_10] at h
  refine lv_aload_n hx hb dX6_project_13 rfl (lv_at hl 0 rfl) ?_
  refine lv_iconst (v := 1) hx hb dX6_project_14 rfl ?_
  obtain ⟨r15, th_15, hc, h⟩ := bw_b2_e h
  refine bw_callV S hK hZ hI (mX6_fails l G cy g a z rows asd sm buf bm 0 od om ow ca bo la pl to rd hh 1 r15 th_15 hc) Y_X6_fails V_X6_fails l_X6_114 ⟨(Nat.le_of_ble_eq_true rfl), (Nat.le_of_ble_eq_true rfl)⟩ (q0 := 0) rfl rfl rfl (ws' := (bw_mW cy a z rows asd sm buf bm th_15 od om ow ca bo la pl to rd hh)) (bw_pS _) (bw_pS' _) rfl rfl hl.1 (rest := []) (st1 := [.int r15]) rfl rfl (Nat.le_of_ble_eq_true rfl) dX6_project_15 ⟨(Nat.le_of_ble_eq_true rfl), (Nat.le_of_ble_eq_true rfl)⟩ (fun H locs hI => ?_)
  exact bw_iret (d := th_15) (rr := (r, th')) S hr hlocks h (fun q : Int32 => (bw_mW cy a z rows asd sm buf bm q od om ow ca bo la pl to rd hh)) hI rfl dX6_project_18 hQ
set_option maxHeartbeats 4000000 in
set_option maxRecDepth 100000 in
theorem mX6_taskOf (l : Launch) (G : va_G) (cy : Nat → ClassId) (g : Nat) (a : Nat → Nat) (z : bw_A1) (rows : bw_A1) (asd : bw_A1) (sm : Int32) (buf : bw_A1) (bm : Int32) (th : Int32) (od : bw_A1) (om : Int32) (ow : Int32) (ca : Int32) (bo : Int32) (la : Int32) (pl : Int32) (to : Int32) (rd : bw_A1) (hh : Int64) (p1 : Int32) (p2 : Int32) (p3 : Int32) (r : Int32) (h : fX6_taskOf z p1 p2 p3 = some r) : bw_M l yX6_taskOf cX6_taskOf 5 (some .int) 1 20 G cy g [.ref (a 0), .int p1, .int p2, .int p3] (bw_mW cy a z rows asd sm buf bm th od om ow ca bo la pl to rd hh) (some (.int r)) (bw_mW cy a z rows asd sm buf bm th od om ow ca bo la pl to rd hh) := by
  refine bw_ofW (by decide +kernel) RX6 rfl (Nat.le_of_ble_eq_true rfl) ?_
  intro p e s m below meth c ls S hr hlocks hK hZ hI hl
  have hx := S.1
  have hb := S.2.1
  have hown := S.2.2.2.1
  have hts := S.2.2.2.2
  generalize va_A _ s.heap.size = A at hI hZ ⊢
  generalize hQ : MQ below _ _ s 0 0 A = Q
  have hl : lv_has ls 5 [(0, .ref (a 0)), (1, .int p1), (2, .int p2), (3, .int p3)] := hl
  unfold fX6_taskOf at h
  refine lv_iload_n hx hb dX6_taskOf_0 rfl (lv_at hl 1 rfl) ?_
  obtain ⟨r1, hc, h⟩ := bw_b1_e h
  refine bw_callP S hK hZ hI (mX6_at l G cy g p1 r1 hc) Y_X6_at V_X6_at l_X6_39 ⟨(Nat.le_of_ble_eq_true rfl), (Nat.le_of_ble_eq_true rfl)⟩ (rest := []) (st1 := [.int r1]) rfl hl.1 rfl rfl (Nat.le_of_ble_eq_true rfl) dX6_taskOf_1 ⟨(Nat.le_of_ble_eq_true rfl), (Nat.le_of_ble_eq_true rfl)⟩ (fun H locs hI => ?_)
  refine lv_istore (lv' := [(4, .int r1), (0, .ref (a 0)), (1, .int p1), (2, .int p2), (3, .int p3)]) hx hb dX6_taskOf_4 hl (by decide) rfl (fun ls hl => ?_)
  refine lv_iload_n hx hb dX6_taskOf_6 rfl (lv_at hl 4 rfl) ?_
  refine lv_iconst (v := 2) hx hb dX6_taskOf_7 rfl ?_
  refine lv_icmp_ge (tgt := 43) hx hb dX6_taskOf_8 (by decide) (fun c_8 => ?_) (fun c_8 => ?_)
  · rw [if_pos c_8] at h
    refine lv_aload_n hx hb dX6_taskOf_43 rfl (lv_at hl 1 rfl) ?_
    refine bw_get S hK hI 0 0 rfl rfl (by decide) i_X6 f_X6_7 rfl dX6_taskOf_44 ?_
    refine lv_iload hx hb dX6_taskOf_47 (lv_at hl 0 rfl) ?_
    refine lv_bipush (v := 26) hx hb dX6_taskOf_49 (by decide) ?_
    refine lv_iadd hx hb dX6_taskOf_51 ?_
    refine lv_iconst (v := 4) hx hb dX6_taskOf_52 rfl ?_
    refine lv_iload_n hx hb dX6_taskOf_53 rfl (lv_at hl 3 rfl) ?_
    refine lv_imul hx hb dX6_taskOf_54 ?_
    refine lv_iadd hx hb dX6_taskOf_55 ?_
    refine lv_iload_n hx hb dX6_taskOf_56 rfl (lv_at hl 4 rfl) ?_
    refine lv_iadd hx hb dX6_taskOf_57 ?_
    refine lv_iconst (v := 2) hx hb dX6_taskOf_58 rfl ?_
    refine lv_isub hx hb dX6_taskOf_59 ?_
    obtain ⟨v60, hv, h⟩ := bw_b1_e h
    refine bw_iald hx hb hK hI 1 hv rfl dX6_taskOf_60 ?_
    exact bw_iretP S hr hlocks h hI rfl dX6_taskOf_61 hQ
  rw [if_neg c_8] at h
  refine lv_iload_n hx hb dX6_taskOf_11 rfl (lv_at hl 4 rfl) ?_
  refine lv_if_ne (tgt := 30) hx hb dX6_taskOf_12 (by decide) (fun c_12 => ?_) (fun c_12 => ?_)
  · rw [if_neg c_12] at h
    refine lv_aload_n hx hb dX6_taskOf_30 rfl (lv_at hl 1 rfl) ?_
    refine bw_get S hK hI 0 0 rfl rfl (by decide) i_X6 f_X6_7 rfl dX6_taskOf_31 ?_
    refine lv_iload hx hb dX6_taskOf_34 (lv_at hl 0 rfl) ?_
    refine lv_bipush (v := 18) hx hb dX6_taskOf_36 (by decide) ?_
    refine lv_iadd hx hb dX6_taskOf_38 ?_
    refine lv_iload_n hx hb dX6_taskOf_39 rfl (lv_at hl 3 rfl) ?_
    refine lv_iadd hx hb dX6_taskOf_40 ?_
    obtain ⟨v41, hv, h⟩ := bw_b1_e h
    refine bw_iald hx hb hK hI 1 hv rfl dX6_taskOf_41 ?_
    exact bw_iretP S hr hlocks h hI rfl dX6_taskOf_42 hQ
  rw [if_pos c_12] at h
  refine lv_aload_n hx hb dX6_taskOf_15 rfl (lv_at hl 1 rfl) ?_
  refine bw_get S hK hI 0 0 rfl rfl (by decide) i_X6 f_X6_7 rfl dX6_taskOf_16 ?_
  refine lv_iload hx hb dX6_taskOf_19 (lv_at hl 0 rfl) ?_
  refine lv_bipush (v := 10) hx hb dX6_taskOf_21 (by decide) ?_
  refine lv_iadd hx hb dX6_taskOf_23 ?_
  refine lv_iload_n hx hb dX6_taskOf_24 rfl (lv_at hl 3 rfl) ?_
  refine lv_iadd hx hb dX6_taskOf_25 ?_
  obtain ⟨v26, hv, h⟩ := bw_b1_e h
  refine bw_iald hx hb hK hI 1 hv rfl dX6_taskOf_26 ?_
  refine lv_goto (tgt := 42) hx hb dX6_taskOf_27 (by decide) ?_
  exact bw_iretP S hr hlocks h hI rfl dX6_taskOf_42 hQ
set_option maxHeartbeats 4000000 in
set_option maxRecDepth 100000 in
theorem mX6_task (l : Launch) (G : va_G) (cy : Nat → ClassId) (g : Nat) (a : Nat → Nat) (z : bw_A1) (rows : bw_A1) (asd : bw_A1) (sm : Int32) (buf : bw_A1) (bm : Int32) (th : Int32) (od : bw_A1) (om : Int32) (ow : Int32) (ca : Int32) (bo : Int32) (la : Int32) (pl : Int32) (to : Int32) (rd : bw_A1) (hh : Int64) (p1 : Int32) (p2 : Int32) (p3 : Int32) (r : Int32) (th' : Int32) (h : fX6_task z th p1 p2 p3 = some (r, th')) : bw_M l yX6_task cX6_task 4 (some .int) 2 44 G cy g [.ref (a 0), .int p1, .int p2, .int p3] (bw_mW cy a z rows asd sm buf bm th od om ow ca bo la pl to rd hh) (some (.int r)) (bw_mW cy a z rows asd sm buf bm th' od om ow ca bo la pl to rd hh) := by
  refine bw_ofW (by decide +kernel) RX6 rfl (Nat.le_of_ble_eq_true rfl) ?_
  intro p e s m below meth c ls S hr hlocks hK hZ hI hl
  have hx := S.1
  have hb := S.2.1
  have hown := S.2.2.2.1
  have hts := S.2.2.2.2
  generalize va_A _ s.heap.size = A at hI hZ ⊢
  generalize hQ : MQ below _ _ s 0 0 A = Q
  have hl : lv_has ls 4 [(0, .ref (a 0)), (1, .int p1), (2, .int p2), (3, .int p3)] := hl
  have j34 : ∀ (th : Int32) (H : Heap) (locs : List Loc) (ls : Array Slot), jX6_task_34 z th = some (r, th') → bw_I G A s.heap (bw_mW cy a z rows asd sm buf bm th od om ow ca bo la pl to rd hh) H locs → lv_has ls 4 [(0, .ref (a 0))] → W p l e (bw_rm 2 44) s m [.ref (a 0), .int p1, .int p2, .int p3].toArray below meth c H locs 0 0 Q (F0 m 34 ls []) := by
    intro th H locs ls h hI hl
    unfold jX6_task_34 at h
    refine lv_aload_n hx hb dX6_task_34 rfl (lv_at hl 0 rfl) ?_
    refine lv_iconst (v := 1) hx hb dX6_task_35 rfl ?_
    obtain ⟨r36, th_36, hc, h⟩ := bw_b2_e h
    refine bw_callV S hK hZ hI (mX6_fails l G cy g a z rows asd sm buf bm th od om ow ca bo la pl to rd hh 1 r36 th_36 hc) Y_X6_fails V_X6_fails l_X6_114 ⟨(Nat.le_of_ble_eq_true rfl), (Nat.le_of_ble_eq_true rfl)⟩ (q0 := 0) rfl rfl rfl (ws' := (bw_mW cy a z rows asd sm buf bm th_36 od om ow ca bo la pl to rd hh)) (bw_pS _) (bw_pS' _) rfl rfl hl.1 (rest := []) (st1 := [.int r36]) rfl rfl (Nat.le_of_ble_eq_true rfl) dX6_task_36 ⟨(Nat.le_of_ble_eq_true rfl), (Nat.le_of_ble_eq_true rfl)⟩ (fun H locs hI => ?_)
    exact bw_iret (d := th_36) (rr := (r, th')) S hr hlocks h (fun q : Int32 => (bw_mW cy a z rows asd sm buf bm q od om ow ca bo la pl to rd hh)) hI rfl dX6_task_39 hQ
  unfold fX6_task at h
  refine lv_aload_n hx hb dX6_task_0 rfl (lv_at hl 0 rfl) ?_
  refine lv_iconst (v := 0) hx hb dX6_task_1 rfl ?_
  refine bw_put S hK hI 0 6 (ws' := (bw_mW cy a z rows asd sm buf bm 0 od om ow ca bo la pl to rd hh)) tyX6 tyX6_ok nmX6 rfl rfl (by decide) i_X6 f_X6_28 rfl rfl rfl rfl (Nat.le_of_ble_eq_true rfl) rfl dX6_task_2 (fun H locs hI => ?_)
  refine lv_aload_n hx hb dX6_task_5 rfl (lv_at hl 0 rfl) ?_
  refine lv_iload_n hx hb dX6_task_6 rfl (lv_at hl 1 rfl) ?_
  obtain ⟨r7, hc, h⟩ := bw_b1_e h
  refine bw_callV S hK hZ hI (mX6_isProject l G cy g a z rows asd sm buf bm 0 od om ow ca bo la pl to rd hh p1 r7 hc) Y_X6_isProject V_X6_isProject l_X6_123 ⟨(Nat.le_of_ble_eq_true rfl), (Nat.le_of_ble_eq_true rfl)⟩ (q0 := 0) rfl rfl rfl (ws' := (bw_mW cy a z rows asd sm buf bm 0 od om ow ca bo la pl to rd hh)) (bw_pS _) (bw_pS' _) rfl rfl hl.1 (rest := []) (st1 := [.int r7]) rfl rfl (Nat.le_of_ble_eq_true rfl) dX6_task_7 ⟨(Nat.le_of_ble_eq_true rfl), (Nat.le_of_ble_eq_true rfl)⟩ (fun H locs hI => ?_)
  refine lv_if_eq (tgt := 34) hx hb dX6_task_10 (by decide) (fun c_10 => ?_) (fun c_10 => ?_)
  · rw [if_pos c_10] at h
    exact j34 0 _ _ _ h hI (lv_sub hl [0] rfl)
  rw [if_neg c_10] at h
  refine lv_iload_n hx hb dX6_task_13 rfl (lv_at hl 2 rfl) ?_
  refine lv_iconst (v := 0) hx hb dX6_task_14 rfl ?_
  refine lv_aload_n hx hb dX6_task_15 rfl (lv_at hl 0 rfl) ?_
  refine bw_get S hK hI 0 0 rfl rfl (by decide) i_X6 f_X6_7 rfl dX6_task_16 ?_
  refine lv_iload_n hx hb dX6_task_19 rfl (lv_at hl 1 rfl) ?_
  obtain ⟨r20, hc, h⟩ := bw_b1_e h
  refine bw_callP S hK hZ hI (mX6_at l G cy g p1 r20 hc) Y_X6_at V_X6_at l_X6_39 ⟨(Nat.le_of_ble_eq_true rfl), (Nat.le_of_ble_eq_true rfl)⟩ (rest := [.ref (a 1), .int 0, .int p2]) (st1 := [.int r20, .ref (a 1), .int 0, .int p2]) rfl hl.1 rfl rfl (Nat.le_of_ble_eq_true rfl) dX6_task_20 ⟨(Nat.le_of_ble_eq_true rfl), (Nat.le_of_ble_eq_true rfl)⟩ (fun H locs hI => ?_)
  refine lv_iconst (v := 5) hx hb dX6_task_23 rfl ?_
  refine lv_iadd hx hb dX6_task_24 ?_
  obtain ⟨v25, hv, h⟩ := bw_b1_e h
  refine bw_iald hx hb hK hI 1 hv rfl dX6_task_25 ?_
  refine lv_iconst (v := 1) hx hb dX6_task_26 rfl ?_
  refine lv_isub hx hb dX6_task_27 ?_
  obtain ⟨r28, hc, h⟩ := bw_b1_e h
  refine bw_callP S hK hZ hI (mX6_in l G cy g p2 0 (v25 - 1) r28 hc) Y_X6_in V_X6_in l_X6_35 ⟨(Nat.le_of_ble_eq_true rfl), (Nat.le_of_ble_eq_true rfl)⟩ (rest := []) (st1 := [.int r28]) rfl hl.1 rfl rfl (Nat.le_of_ble_eq_true rfl) dX6_task_28 ⟨(Nat.le_of_ble_eq_true rfl), (Nat.le_of_ble_eq_true rfl)⟩ (fun H locs hI => ?_)
  refine lv_if_ne (tgt := 40) hx hb dX6_task_31 (by decide) (fun c_31 => ?_) (fun c_31 => ?_)
  · rw [if_neg c_31] at h
    refine lv_iload_n hx hb dX6_task_40 rfl (lv_at hl 3 rfl) ?_
    refine lv_iconst (v := 0) hx hb dX6_task_41 rfl ?_
    refine lv_iconst (v := 5) hx hb dX6_task_42 rfl ?_
    obtain ⟨r43, hc, h⟩ := bw_b1_e h
    refine bw_callP S hK hZ hI (mX6_in l G cy g p3 0 5 r43 hc) Y_X6_in V_X6_in l_X6_35 ⟨(Nat.le_of_ble_eq_true rfl), (Nat.le_of_ble_eq_true rfl)⟩ (rest := []) (st1 := [.int r43]) rfl hl.1 rfl rfl (Nat.le_of_ble_eq_true rfl) dX6_task_43 ⟨(Nat.le_of_ble_eq_true rfl), (Nat.le_of_ble_eq_true rfl)⟩ (fun H locs hI => ?_)
    refine lv_if_eq (tgt := 59) hx hb dX6_task_46 (by decide) (fun c_46 => ?_) (fun c_46 => ?_)
    · rw [if_pos c_46] at h
      refine lv_aload_n hx hb dX6_task_59 rfl (lv_at hl 0 rfl) ?_
      refine lv_iconst (v := 2) hx hb dX6_task_60 rfl ?_
      obtain ⟨r61, th_61, hc, h⟩ := bw_b2_e h
      refine bw_callV S hK hZ hI (mX6_fails l G cy g a z rows asd sm buf bm 0 od om ow ca bo la pl to rd hh 2 r61 th_61 hc) Y_X6_fails V_X6_fails l_X6_114 ⟨(Nat.le_of_ble_eq_true rfl), (Nat.le_of_ble_eq_true rfl)⟩ (q0 := 0) rfl rfl rfl (ws' := (bw_mW cy a z rows asd sm buf bm th_61 od om ow ca bo la pl to rd hh)) (bw_pS _) (bw_pS' _) rfl rfl hl.1 (rest := []) (st1 := [.int r61]) rfl rfl (Nat.le_of_ble_eq_true rfl) dX6_task_61 ⟨(Nat.le_of_ble_eq_true rfl), (Nat.le_of_ble_eq_true rfl)⟩ (fun H locs hI => ?_)
      exact bw_iret (d := th_61) (rr := (r, th')) S hr hlocks h (fun q : Int32 => (bw_mW cy a z rows asd sm buf bm q od om ow ca bo la pl to rd hh)) hI rfl dX6_task_64 hQ
    rw [if_neg c_46] at h
    refine lv_aload_n hx hb dX6_task_49 rfl (lv_at hl 0 rfl) ?_
    refine lv_iload_n hx hb dX6_task_50 rfl (lv_at hl 1 rfl) ?_
    refine lv_iload_n hx hb dX6_task_51 rfl (lv_at hl 2 rfl) ?_
    refine lv_iload_n hx hb dX6_task_52 rfl (lv_at hl 3 rfl) ?_
    obtain ⟨r53, hc, h⟩ := bw_b1_e h
    refine bw_callV S hK hZ hI (mX6_taskOf l G cy g a z rows asd sm buf bm 0 od om ow ca bo la pl to rd hh p1 p2 p3 r53 hc) Y_X6_taskOf V_X6_taskOf l_X6_182 ⟨(Nat.le_of_ble_eq_true rfl), (Nat.le_of_ble_eq_true rfl)⟩ (q0 := 0) rfl rfl rfl (ws' := (bw_mW cy a z rows asd sm buf bm 0 od om ow ca bo la pl to rd hh)) (bw_pS _) (bw_pS' _) rfl rfl hl.1 (rest := []) (st1 := [.int r53]) rfl rfl (Nat.le_of_ble_eq_true rfl) dX6_task_53 ⟨(Nat.le_of_ble_eq_true rfl), (Nat.le_of_ble_eq_true rfl)⟩ (fun H locs hI => ?_)
    refine lv_goto (tgt := 64) hx hb dX6_task_56 (by decide) ?_
    exact bw_iret (d := 0) (rr := (r, th')) S hr hlocks h (fun q : Int32 => (bw_mW cy a z rows asd sm buf bm q od om ow ca bo la pl to rd hh)) hI rfl dX6_task_64 hQ
  rw [if_pos c_31] at h
  exact j34 0 _ _ _ h hI (lv_sub hl [0] rfl)
set_option maxHeartbeats 4000000 in
set_option maxRecDepth 100000 in
theorem mX6_loan (l : Launch) (G : va_G) (cy : Nat → ClassId) (g : Nat) (a : Nat → Nat) (z : bw_A1) (rows : bw_A1) (asd : bw_A1) (sm : Int32) (buf : bw_A1) (bm : Int32) (th : Int32) (od : bw_A1) (om : Int32) (ow : Int32) (ca : Int32) (bo : Int32) (la : Int32) (pl : Int32) (to : Int32) (rd : bw_A1) (hh : Int64) (p1 : Int32) (p2 : Int32) (r : Int32) (th' : Int32) (h : fX6_loan z th p1 p2 = some (r, th')) : bw_M l yX6_loan cX6_loan 3 (some .int) 1 22 G cy g [.ref (a 0), .int p1, .int p2] (bw_mW cy a z rows asd sm buf bm th od om ow ca bo la pl to rd hh) (some (.int r)) (bw_mW cy a z rows asd sm buf bm th' od om ow ca bo la pl to rd hh) := by
  refine bw_ofW (by decide +kernel) RX6 rfl (Nat.le_of_ble_eq_true rfl) ?_
  intro p e s m below meth c ls S hr hlocks hK hZ hI hl
  have hx := S.1
  have hb := S.2.1
  have hown := S.2.2.2.1
  have hts := S.2.2.2.2
  generalize va_A _ s.heap.size = A at hI hZ ⊢
  generalize hQ : MQ below _ _ s 0 0 A = Q
  have hl : lv_has ls 3 [(0, .ref (a 0)), (1, .int p1), (2, .int p2)] := hl
  unfold fX6_loan at h
  refine lv_aload_n hx hb dX6_loan_0 rfl (lv_at hl 0 rfl) ?_
  refine lv_iconst (v := 0) hx hb dX6_loan_1 rfl ?_
  refine bw_put S hK hI 0 6 (ws' := (bw_mW cy a z rows asd sm buf bm 0 od om ow ca bo la pl to rd hh)) tyX6 tyX6_ok nmX6 rfl rfl (by decide) i_X6 f_X6_28 rfl rfl rfl rfl (Nat.le_of_ble_eq_true rfl) rfl dX6_loan_2 (fun H locs hI => ?_)
  refine lv_iload_n hx hb dX6_loan_5 rfl (lv_at hl 1 rfl) ?_
  refine lv_iconst (v := 0) hx hb dX6_loan_6 rfl ?_
  refine lv_aload_n hx hb dX6_loan_7 rfl (lv_at hl 0 rfl) ?_
  refine bw_get S hK hI 0 0 rfl rfl (by decide) i_X6 f_X6_7 rfl dX6_loan_8 ?_
  refine lv_iconst (v := 1) hx hb dX6_loan_11 rfl ?_
  obtain ⟨v12, hv, h⟩ := bw_b1_e h
  refine bw_iald hx hb hK hI 1 hv rfl dX6_loan_12 ?_
  refine lv_iconst (v := 1) hx hb dX6_loan_13 rfl ?_
  refine lv_isub hx hb dX6_loan_14 ?_
  obtain ⟨r15, hc, h⟩ := bw_b1_e h
  refine bw_callP S hK hZ hI (mX6_in l G cy g p1 0 (v12 - 1) r15 hc) Y_X6_in V_X6_in l_X6_35 ⟨(Nat.le_of_ble_eq_true rfl), (Nat.le_of_ble_eq_true rfl)⟩ (rest := []) (st1 := [.int r15]) rfl hl.1 rfl rfl (Nat.le_of_ble_eq_true rfl) dX6_loan_15 ⟨(Nat.le_of_ble_eq_true rfl), (Nat.le_of_ble_eq_true rfl)⟩ (fun H locs hI => ?_)
  refine lv_if_ne (tgt := 27) hx hb dX6_loan_18 (by decide) (fun c_18 => ?_) (fun c_18 => ?_)
  · rw [if_neg c_18] at h
    refine lv_iload_n hx hb dX6_loan_27 rfl (lv_at hl 2 rfl) ?_
    refine lv_iconst (v := 0) hx hb dX6_loan_28 rfl ?_
    refine lv_iconst (v := 2) hx hb dX6_loan_29 rfl ?_
    obtain ⟨r30, hc, h⟩ := bw_b1_e h
    refine bw_callP S hK hZ hI (mX6_in l G cy g p2 0 2 r30 hc) Y_X6_in V_X6_in l_X6_35 ⟨(Nat.le_of_ble_eq_true rfl), (Nat.le_of_ble_eq_true rfl)⟩ (rest := []) (st1 := [.int r30]) rfl hl.1 rfl rfl (Nat.le_of_ble_eq_true rfl) dX6_loan_30 ⟨(Nat.le_of_ble_eq_true rfl), (Nat.le_of_ble_eq_true rfl)⟩ (fun H locs hI => ?_)
    refine lv_if_eq (tgt := 50) hx hb dX6_loan_33 (by decide) (fun c_33 => ?_) (fun c_33 => ?_)
    · rw [if_pos c_33] at h
      refine lv_aload_n hx hb dX6_loan_50 rfl (lv_at hl 0 rfl) ?_
      refine lv_iconst (v := 2) hx hb dX6_loan_51 rfl ?_
      obtain ⟨r52, th_52, hc, h⟩ := bw_b2_e h
      refine bw_callV S hK hZ hI (mX6_fails l G cy g a z rows asd sm buf bm 0 od om ow ca bo la pl to rd hh 2 r52 th_52 hc) Y_X6_fails V_X6_fails l_X6_114 ⟨(Nat.le_of_ble_eq_true rfl), (Nat.le_of_ble_eq_true rfl)⟩ (q0 := 0) rfl rfl rfl (ws' := (bw_mW cy a z rows asd sm buf bm th_52 od om ow ca bo la pl to rd hh)) (bw_pS _) (bw_pS' _) rfl rfl hl.1 (rest := []) (st1 := [.int r52]) rfl rfl (Nat.le_of_ble_eq_true rfl) dX6_loan_52 ⟨(Nat.le_of_ble_eq_true rfl), (Nat.le_of_ble_eq_true rfl)⟩ (fun H locs hI => ?_)
      exact bw_iret (d := th_52) (rr := (r, th')) S hr hlocks h (fun q : Int32 => (bw_mW cy a z rows asd sm buf bm q od om ow ca bo la pl to rd hh)) hI rfl dX6_loan_55 hQ
    rw [if_neg c_33] at h
    refine lv_aload_n hx hb dX6_loan_36 rfl (lv_at hl 0 rfl) ?_
    refine bw_get S hK hI 0 0 rfl rfl (by decide) i_X6 f_X6_7 rfl dX6_loan_37 ?_
    refine lv_iload_n hx hb dX6_loan_40 rfl (lv_at hl 1 rfl) ?_
    obtain ⟨r41, hc, h⟩ := bw_b1_e h
    refine bw_callP S hK hZ hI (mX6_loanAt l G cy g p1 r41 hc) Y_X6_loanAt V_X6_loanAt l_X6_50 ⟨(Nat.le_of_ble_eq_true rfl), (Nat.le_of_ble_eq_true rfl)⟩ (rest := [.ref (a 1)]) (st1 := [.int r41, .ref (a 1)]) rfl hl.1 rfl rfl (Nat.le_of_ble_eq_true rfl) dX6_loan_41 ⟨(Nat.le_of_ble_eq_true rfl), (Nat.le_of_ble_eq_true rfl)⟩ (fun H locs hI => ?_)
    refine lv_iload_n hx hb dX6_loan_44 rfl (lv_at hl 2 rfl) ?_
    refine lv_iadd hx hb dX6_loan_45 ?_
    obtain ⟨v46, hv, h⟩ := bw_b1_e h
    refine bw_iald hx hb hK hI 1 hv rfl dX6_loan_46 ?_
    refine lv_goto (tgt := 55) hx hb dX6_loan_47 (by decide) ?_
    exact bw_iret (d := 0) (rr := (r, th')) S hr hlocks h (fun q : Int32 => (bw_mW cy a z rows asd sm buf bm q od om ow ca bo la pl to rd hh)) hI rfl dX6_loan_55 hQ
  rw [if_pos c_18] at h
  refine lv_aload_n hx hb dX6_loan_21 rfl (lv_at hl 0 rfl) ?_
  refine lv_iconst (v := 1) hx hb dX6_loan_22 rfl ?_
  obtain ⟨r23, th_23, hc, h⟩ := bw_b2_e h
  refine bw_callV S hK hZ hI (mX6_fails l G cy g a z rows asd sm buf bm 0 od om ow ca bo la pl to rd hh 1 r23 th_23 hc) Y_X6_fails V_X6_fails l_X6_114 ⟨(Nat.le_of_ble_eq_true rfl), (Nat.le_of_ble_eq_true rfl)⟩ (q0 := 0) rfl rfl rfl (ws' := (bw_mW cy a z rows asd sm buf bm th_23 od om ow ca bo la pl to rd hh)) (bw_pS _) (bw_pS' _) rfl rfl hl.1 (rest := []) (st1 := [.int r23]) rfl rfl (Nat.le_of_ble_eq_true rfl) dX6_loan_23 ⟨(Nat.le_of_ble_eq_true rfl), (Nat.le_of_ble_eq_true rfl)⟩ (fun H locs hI => ?_)
  exact bw_iret (d := th_23) (rr := (r, th')) S hr hlocks h (fun q : Int32 => (bw_mW cy a z rows asd sm buf bm q od om ow ca bo la pl to rd hh)) hI rfl dX6_loan_26 hQ
set_option maxHeartbeats 4000000 in
set_option maxRecDepth 100000 in
theorem mX6_owed (l : Launch) (G : va_G) (cy : Nat → ClassId) (g : Nat) (a : Nat → Nat) (z : bw_A1) (rows : bw_A1) (asd : bw_A1) (sm : Int32) (buf : bw_A1) (bm : Int32) (th : Int32) (od : bw_A1) (om : Int32) (ow : Int32) (ca : Int32) (bo : Int32) (la : Int32) (pl : Int32) (to : Int32) (rd : bw_A1) (hh : Int64) (p1 : Int32) (p2 : Int32) (r : Int32) (th' : Int32) (h : fX6_owed z th p1 p2 = some (r, th')) : bw_M l yX6_owed cX6_owed 3 (some .int) 3 66 G cy g [.ref (a 0), .int p1, .int p2] (bw_mW cy a z rows asd sm buf bm th od om ow ca bo la pl to rd hh) (some (.int r)) (bw_mW cy a z rows asd sm buf bm th' od om ow ca bo la pl to rd hh) := by
  refine bw_ofW (by decide +kernel) RX6 rfl (Nat.le_of_ble_eq_true rfl) ?_
  intro p e s m below meth c ls S hr hlocks hK hZ hI hl
  have hx := S.1
  have hb := S.2.1
  have hown := S.2.2.2.1
  have hts := S.2.2.2.2
  generalize va_A _ s.heap.size = A at hI hZ ⊢
  generalize hQ : MQ below _ _ s 0 0 A = Q
  have hl : lv_has ls 3 [(0, .ref (a 0)), (1, .int p1), (2, .int p2)] := hl
  have j30 : ∀ (th : Int32) (H : Heap) (locs : List Loc) (ls : Array Slot), jX6_owed_30 z th = some (r, th') → bw_I G A s.heap (bw_mW cy a z rows asd sm buf bm th od om ow ca bo la pl to rd hh) H locs → lv_has ls 3 [(0, .ref (a 0))] → W p l e (bw_rm 3 66) s m [.ref (a 0), .int p1, .int p2].toArray below meth c H locs 0 0 Q (F0 m 30 ls []) := by
    intro th H locs ls h hI hl
    unfold jX6_owed_30 at h
    refine lv_aload_n hx hb dX6_owed_30 rfl (lv_at hl 0 rfl) ?_
    refine lv_iconst (v := 1) hx hb dX6_owed_31 rfl ?_
    obtain ⟨r32, th_32, hc, h⟩ := bw_b2_e h
    refine bw_callV S hK hZ hI (mX6_fails l G cy g a z rows asd sm buf bm th od om ow ca bo la pl to rd hh 1 r32 th_32 hc) Y_X6_fails V_X6_fails l_X6_114 ⟨(Nat.le_of_ble_eq_true rfl), (Nat.le_of_ble_eq_true rfl)⟩ (q0 := 0) rfl rfl rfl (ws' := (bw_mW cy a z rows asd sm buf bm th_32 od om ow ca bo la pl to rd hh)) (bw_pS _) (bw_pS' _) rfl rfl hl.1 (rest := []) (st1 := [.int r32]) rfl rfl (Nat.le_of_ble_eq_true rfl) dX6_owed_32 ⟨(Nat.le_of_ble_eq_true rfl), (Nat.le_of_ble_eq_true rfl)⟩ (fun H locs hI => ?_)
    exact bw_iret (d := th_32) (rr := (r, th')) S hr hlocks h (fun q : Int32 => (bw_mW cy a z rows asd sm buf bm q od om ow ca bo la pl to rd hh)) hI rfl dX6_owed_35 hQ
  unfold fX6_owed at h
  refine lv_aload_n hx hb dX6_owed_0 rfl (lv_at hl 0 rfl) ?_
  refine lv_iconst (v := 0) hx hb dX6_owed_1 rfl ?_
  refine bw_put S hK hI 0 6 (ws' := (bw_mW cy a z rows asd sm buf bm 0 od om ow ca bo la pl to rd hh)) tyX6 tyX6_ok nmX6 rfl rfl (by decide) i_X6 f_X6_28 rfl rfl rfl rfl (Nat.le_of_ble_eq_true rfl) rfl dX6_owed_2 (fun H locs hI => ?_)
  refine lv_aload_n hx hb dX6_owed_5 rfl (lv_at hl 0 rfl) ?_
  refine lv_iload_n hx hb dX6_owed_6 rfl (lv_at hl 1 rfl) ?_
  obtain ⟨r7, hc, h⟩ := bw_b1_e h
  refine bw_callV S hK hZ hI (mX6_isProject l G cy g a z rows asd sm buf bm 0 od om ow ca bo la pl to rd hh p1 r7 hc) Y_X6_isProject V_X6_isProject l_X6_123 ⟨(Nat.le_of_ble_eq_true rfl), (Nat.le_of_ble_eq_true rfl)⟩ (q0 := 0) rfl rfl rfl (ws' := (bw_mW cy a z rows asd sm buf bm 0 od om ow ca bo la pl to rd hh)) (bw_pS _) (bw_pS' _) rfl rfl hl.1 (rest := []) (st1 := [.int r7]) rfl rfl (Nat.le_of_ble_eq_true rfl) dX6_owed_7 ⟨(Nat.le_of_ble_eq_true rfl), (Nat.le_of_ble_eq_true rfl)⟩ (fun H locs hI => ?_)
  refine lv_if_eq (tgt := 30) hx hb dX6_owed_10 (by decide) (fun c_10 => ?_) (fun c_10 => ?_)
  · rw [if_pos c_10] at h
    exact j30 0 _ _ _ h hI (lv_sub hl [0] rfl)
  rw [if_neg c_10] at h
  refine lv_aload_n hx hb dX6_owed_13 rfl (lv_at hl 0 rfl) ?_
  refine lv_iload_n hx hb dX6_owed_14 rfl (lv_at hl 2 rfl) ?_
  obtain ⟨r15, hc, h⟩ := bw_b1_e h
  refine bw_callV S hK hZ hI (mX6_isProject l G cy g a z rows asd sm buf bm 0 od om ow ca bo la pl to rd hh p2 r15 hc) Y_X6_isProject V_X6_isProject l_X6_123 ⟨(Nat.le_of_ble_eq_true rfl), (Nat.le_of_ble_eq_true rfl)⟩ (q0 := 0) rfl rfl rfl (ws' := (bw_mW cy a z rows asd sm buf bm 0 od om ow ca bo la pl to rd hh)) (bw_pS _) (bw_pS' _) rfl rfl hl.1 (rest := []) (st1 := [.int r15]) rfl rfl (Nat.le_of_ble_eq_true rfl) dX6_owed_15 ⟨(Nat.le_of_ble_eq_true rfl), (Nat.le_of_ble_eq_true rfl)⟩ (fun H locs hI => ?_)
  refine lv_if_eq (tgt := 30) hx hb dX6_owed_18 (by decide) (fun c_18 => ?_) (fun c_18 => ?_)
  · rw [if_pos c_18] at h
    exact j30 0 _ _ _ h hI (lv_sub hl [0] rfl)
  rw [if_neg c_18] at h
  refine lv_aload_n hx hb dX6_owed_21 rfl (lv_at hl 0 rfl) ?_
  refine lv_iload_n hx hb dX6_owed_22 rfl (lv_at hl 1 rfl) ?_
  refine lv_iload_n hx hb dX6_owed_23 rfl (lv_at hl 2 rfl) ?_
  obtain ⟨r24, hc, h⟩ := bw_b1_e h
  refine bw_callV S hK hZ hI (mX6_owedOf l G cy g a z rows asd sm buf bm 0 od om ow ca bo la pl to rd hh p1 p2 r24 hc) Y_X6_owedOf V_X6_owedOf l_X6_135 ⟨(Nat.le_of_ble_eq_true rfl), (Nat.le_of_ble_eq_true rfl)⟩ (q0 := 0) rfl rfl rfl (ws' := (bw_mW cy a z rows asd sm buf bm 0 od om ow ca bo la pl to rd hh)) (bw_pS _) (bw_pS' _) rfl rfl hl.1 (rest := []) (st1 := [.int r24]) rfl rfl (Nat.le_of_ble_eq_true rfl) dX6_owed_24 ⟨(Nat.le_of_ble_eq_true rfl), (Nat.le_of_ble_eq_true rfl)⟩ (fun H locs hI => ?_)
  refine lv_goto (tgt := 35) hx hb dX6_owed_27 (by decide) ?_
  exact bw_iret (d := 0) (rr := (r, th')) S hr hlocks h (fun q : Int32 => (bw_mW cy a z rows asd sm buf bm q od om ow ca bo la pl to rd hh)) hI rfl dX6_owed_35 hQ
set_option maxHeartbeats 4000000 in
set_option maxRecDepth 100000 in
theorem mX6_lenderOf (l : Launch) (G : va_G) (cy : Nat → ClassId) (g : Nat) (a : Nat → Nat) (z : bw_A1) (rows : bw_A1) (asd : bw_A1) (sm : Int32) (buf : bw_A1) (bm : Int32) (th : Int32) (od : bw_A1) (om : Int32) (ow : Int32) (ca : Int32) (bo : Int32) (la : Int32) (pl : Int32) (to : Int32) (rd : bw_A1) (hh : Int64) (p1 : Int32) (p2 : Int32) (r : Int32) (od' : bw_A1) (om' : Int32) (h : fX6_lenderOf z od om p1 p2 = some (r, od', om')) : bw_M l yX6_lenderOf cX6_lenderOf 3 (some .int) 5 111 G cy g [.ref (a 0), .int p1, .int p2] (bw_mW cy a z rows asd sm buf bm th od om ow ca bo la pl to rd hh) (some (.int r)) (bw_mW cy a z rows asd sm buf bm th od' om' ow ca bo la pl to rd hh) := by
  refine bw_ofW (by decide +kernel) RX6 rfl (Nat.le_of_ble_eq_true rfl) ?_
  intro p e s m below meth c ls S hr hlocks hK hZ hI hl
  have hx := S.1
  have hb := S.2.1
  have hown := S.2.2.2.1
  have hts := S.2.2.2.2
  generalize va_A _ s.heap.size = A at hI hZ ⊢
  generalize hQ : MQ below _ _ s 0 0 A = Q
  have hl : lv_has ls 3 [(0, .ref (a 0)), (1, .int p1), (2, .int p2)] := hl
  unfold fX6_lenderOf at h
  refine lv_aload_n hx hb dX6_lenderOf_0 rfl (lv_at hl 0 rfl) ?_
  refine lv_iload_n hx hb dX6_lenderOf_1 rfl (lv_at hl 1 rfl) ?_
  obtain ⟨od_2, om_2, hc, h⟩ := bw_b2_e h
  refine bw_callV S hK hZ hI (mX6_layOrder l G cy g a z rows asd sm buf bm th od om ow ca bo la pl to rd hh p1 od_2 om_2 hc) Y_X6_layOrder V_X6_layOrder l_X6_83 ⟨(Nat.le_of_ble_eq_true rfl), (Nat.le_of_ble_eq_true rfl)⟩ (q0 := 0) rfl rfl rfl (ws' := (bw_mW cy a z rows asd sm buf bm th od_2 om_2 ow ca bo la pl to rd hh)) (bw_pS _) (bw_pS' _) rfl rfl hl.1 (rest := []) (st1 := []) rfl rfl (Nat.le_of_ble_eq_true rfl) dX6_lenderOf_2 ⟨(Nat.le_of_ble_eq_true rfl), (Nat.le_of_ble_eq_true rfl)⟩ (fun H locs hI => ?_)
  refine lv_iload_n hx hb dX6_lenderOf_5 rfl (lv_at hl 2 rfl) ?_
  refine lv_aload_n hx hb dX6_lenderOf_6 rfl (lv_at hl 0 rfl) ?_
  refine bw_get S hK hI 0 8 rfl rfl (by decide) i_X6 f_X6_74 rfl dX6_lenderOf_7 ?_
  refine lv_icmp_ge (tgt := 22) hx hb dX6_lenderOf_10 (by decide) (fun c_10 => ?_) (fun c_10 => ?_)
  · rw [if_pos c_10] at h
    refine lv_iconst (v := (-1)) hx hb dX6_lenderOf_22 rfl ?_
    exact bw_iret (d := (od_2, om_2)) (rr := (r, od', om')) S hr hlocks h (fun q : (bw_A1 × Int32) => (bw_mW cy a z rows asd sm buf bm th q.1 q.2 ow ca bo la pl to rd hh)) hI rfl dX6_lenderOf_23 hQ
  rw [if_neg c_10] at h
  refine lv_aload_n hx hb dX6_lenderOf_13 rfl (lv_at hl 0 rfl) ?_
  refine bw_get S hK hI 0 7 rfl rfl (by decide) i_X6 f_X6_22 rfl dX6_lenderOf_14 ?_
  refine lv_iload_n hx hb dX6_lenderOf_17 rfl (lv_at hl 2 rfl) ?_
  obtain ⟨v18, hv, h⟩ := bw_b1_e h
  refine bw_iald hx hb hK hI 5 hv rfl dX6_lenderOf_18 ?_
  refine lv_goto (tgt := 23) hx hb dX6_lenderOf_19 (by decide) ?_
  exact bw_iret (d := (od_2, om_2)) (rr := (r, od', om')) S hr hlocks h (fun q : (bw_A1 × Int32) => (bw_mW cy a z rows asd sm buf bm th q.1 q.2 ow ca bo la pl to rd hh)) hI rfl dX6_lenderOf_23 hQ
set_option maxHeartbeats 4000000 in
set_option maxRecDepth 100000 in
theorem mX6_lender (l : Launch) (G : va_G) (cy : Nat → ClassId) (g : Nat) (a : Nat → Nat) (z : bw_A1) (rows : bw_A1) (asd : bw_A1) (sm : Int32) (buf : bw_A1) (bm : Int32) (th : Int32) (od : bw_A1) (om : Int32) (ow : Int32) (ca : Int32) (bo : Int32) (la : Int32) (pl : Int32) (to : Int32) (rd : bw_A1) (hh : Int64) (p1 : Int32) (p2 : Int32) (r : Int32) (th' : Int32) (od' : bw_A1) (om' : Int32) (h : fX6_lender z th od om p1 p2 = some (r, th', od', om')) : bw_M l yX6_lender cX6_lender 3 (some .int) 6 133 G cy g [.ref (a 0), .int p1, .int p2] (bw_mW cy a z rows asd sm buf bm th od om ow ca bo la pl to rd hh) (some (.int r)) (bw_mW cy a z rows asd sm buf bm th' od' om' ow ca bo la pl to rd hh) := by
  refine bw_ofW (by decide +kernel) RX6 rfl (Nat.le_of_ble_eq_true rfl) ?_
  intro p e s m below meth c ls S hr hlocks hK hZ hI hl
  have hx := S.1
  have hb := S.2.1
  have hown := S.2.2.2.1
  have hts := S.2.2.2.2
  generalize va_A _ s.heap.size = A at hI hZ ⊢
  generalize hQ : MQ below _ _ s 0 0 A = Q
  have hl : lv_has ls 3 [(0, .ref (a 0)), (1, .int p1), (2, .int p2)] := hl
  unfold fX6_lender at h
  refine lv_aload_n hx hb dX6_lender_0 rfl (lv_at hl 0 rfl) ?_
  refine lv_iconst (v := 0) hx hb dX6_lender_1 rfl ?_
  refine bw_put S hK hI 0 6 (ws' := (bw_mW cy a z rows asd sm buf bm 0 od om ow ca bo la pl to rd hh)) tyX6 tyX6_ok nmX6 rfl rfl (by decide) i_X6 f_X6_28 rfl rfl rfl rfl (Nat.le_of_ble_eq_true rfl) rfl dX6_lender_2 (fun H locs hI => ?_)
  refine lv_aload_n hx hb dX6_lender_5 rfl (lv_at hl 0 rfl) ?_
  refine lv_iload_n hx hb dX6_lender_6 rfl (lv_at hl 1 rfl) ?_
  obtain ⟨r7, hc, h⟩ := bw_b1_e h
  refine bw_callV S hK hZ hI (mX6_isProject l G cy g a z rows asd sm buf bm 0 od om ow ca bo la pl to rd hh p1 r7 hc) Y_X6_isProject V_X6_isProject l_X6_123 ⟨(Nat.le_of_ble_eq_true rfl), (Nat.le_of_ble_eq_true rfl)⟩ (q0 := 0) rfl rfl rfl (ws' := (bw_mW cy a z rows asd sm buf bm 0 od om ow ca bo la pl to rd hh)) (bw_pS _) (bw_pS' _) rfl rfl hl.1 (rest := []) (st1 := [.int r7]) rfl rfl (Nat.le_of_ble_eq_true rfl) dX6_lender_7 ⟨(Nat.le_of_ble_eq_true rfl), (Nat.le_of_ble_eq_true rfl)⟩ (fun H locs hI => ?_)
  refine lv_if_ne (tgt := 19) hx hb dX6_lender_10 (by decide) (fun c_10 => ?_) (fun c_10 => ?_)
  · rw [if_neg c_10] at h
    refine lv_iload_n hx hb dX6_lender_19 rfl (lv_at hl 2 rfl) ?_
    refine lv_iconst (v := 0) hx hb dX6_lender_20 rfl ?_
    refine lv_iconst (v := 4) hx hb dX6_lender_21 rfl ?_
    obtain ⟨r22, hc, h⟩ := bw_b1_e h
    refine bw_callP S hK hZ hI (mX6_in l G cy g p2 0 4 r22 hc) Y_X6_in V_X6_in l_X6_35 ⟨(Nat.le_of_ble_eq_true rfl), (Nat.le_of_ble_eq_true rfl)⟩ (rest := []) (st1 := [.int r22]) rfl hl.1 rfl rfl (Nat.le_of_ble_eq_true rfl) dX6_lender_22 ⟨(Nat.le_of_ble_eq_true rfl), (Nat.le_of_ble_eq_true rfl)⟩ (fun H locs hI => ?_)
    refine lv_if_eq (tgt := 37) hx hb dX6_lender_25 (by decide) (fun c_25 => ?_) (fun c_25 => ?_)
    · rw [if_pos c_25] at h
      refine lv_aload_n hx hb dX6_lender_37 rfl (lv_at hl 0 rfl) ?_
      refine lv_iconst (v := 2) hx hb dX6_lender_38 rfl ?_
      obtain ⟨r39, th_39, hc, h⟩ := bw_b2_e h
      refine bw_callV S hK hZ hI (mX6_fails l G cy g a z rows asd sm buf bm 0 od om ow ca bo la pl to rd hh 2 r39 th_39 hc) Y_X6_fails V_X6_fails l_X6_114 ⟨(Nat.le_of_ble_eq_true rfl), (Nat.le_of_ble_eq_true rfl)⟩ (q0 := 0) rfl rfl rfl (ws' := (bw_mW cy a z rows asd sm buf bm th_39 od om ow ca bo la pl to rd hh)) (bw_pS _) (bw_pS' _) rfl rfl hl.1 (rest := []) (st1 := [.int r39]) rfl rfl (Nat.le_of_ble_eq_true rfl) dX6_lender_39 ⟨(Nat.le_of_ble_eq_true rfl), (Nat.le_of_ble_eq_true rfl)⟩ (fun H locs hI => ?_)
      exact bw_iret (d := (th_39, od, om)) (rr := (r, th', od', om')) S hr hlocks h (fun q : (Int32 × bw_A1 × Int32) => (bw_mW cy a z rows asd sm buf bm q.1 q.2.1 q.2.2 ow ca bo la pl to rd hh)) hI rfl dX6_lender_42 hQ
    rw [if_neg c_25] at h
    refine lv_aload_n hx hb dX6_lender_28 rfl (lv_at hl 0 rfl) ?_
    refine lv_iload_n hx hb dX6_lender_29 rfl (lv_at hl 1 rfl) ?_
    refine lv_iload_n hx hb dX6_lender_30 rfl (lv_at hl 2 rfl) ?_
    obtain ⟨r31, od_31, om_31, hc, h⟩ := bw_b3_e h
    refine bw_callV S hK hZ hI (mX6_lenderOf l G cy g a z rows asd sm buf bm 0 od om ow ca bo la pl to rd hh p1 p2 r31 od_31 om_31 hc) Y_X6_lenderOf V_X6_lenderOf l_X6_186 ⟨(Nat.le_of_ble_eq_true rfl), (Nat.le_of_ble_eq_true rfl)⟩ (q0 := 0) rfl rfl rfl (ws' := (bw_mW cy a z rows asd sm buf bm 0 od_31 om_31 ow ca bo la pl to rd hh)) (bw_pS _) (bw_pS' _) rfl rfl hl.1 (rest := []) (st1 := [.int r31]) rfl rfl (Nat.le_of_ble_eq_true rfl) dX6_lender_31 ⟨(Nat.le_of_ble_eq_true rfl), (Nat.le_of_ble_eq_true rfl)⟩ (fun H locs hI => ?_)
    refine lv_goto (tgt := 42) hx hb dX6_lender_34 (by decide) ?_
    exact bw_iret (d := (0, od_31, om_31)) (rr := (r, th', od', om')) S hr hlocks h (fun q : (Int32 × bw_A1 × Int32) => (bw_mW cy a z rows asd sm buf bm q.1 q.2.1 q.2.2 ow ca bo la pl to rd hh)) hI rfl dX6_lender_42 hQ
  rw [if_pos c_10] at h
  refine lv_aload_n hx hb dX6_lender_13 rfl (lv_at hl 0 rfl) ?_
  refine lv_iconst (v := 1) hx hb dX6_lender_14 rfl ?_
  obtain ⟨r15, th_15, hc, h⟩ := bw_b2_e h
  refine bw_callV S hK hZ hI (mX6_fails l G cy g a z rows asd sm buf bm 0 od om ow ca bo la pl to rd hh 1 r15 th_15 hc) Y_X6_fails V_X6_fails l_X6_114 ⟨(Nat.le_of_ble_eq_true rfl), (Nat.le_of_ble_eq_true rfl)⟩ (q0 := 0) rfl rfl rfl (ws' := (bw_mW cy a z rows asd sm buf bm th_15 od om ow ca bo la pl to rd hh)) (bw_pS _) (bw_pS' _) rfl rfl hl.1 (rest := []) (st1 := [.int r15]) rfl rfl (Nat.le_of_ble_eq_true rfl) dX6_lender_15 ⟨(Nat.le_of_ble_eq_true rfl), (Nat.le_of_ble_eq_true rfl)⟩ (fun H locs hI => ?_)
  exact bw_iret (d := (th_15, od, om)) (rr := (r, th', od', om')) S hr hlocks h (fun q : (Int32 × bw_A1 × Int32) => (bw_mW cy a z rows asd sm buf bm q.1 q.2.1 q.2.2 ow ca bo la pl to rd hh)) hI rfl dX6_lender_18 hQ
set_option maxHeartbeats 4000000 in
set_option maxRecDepth 100000 in
theorem mX6_ofProjects (l : Launch) (G : va_G) (cy : Nat → ClassId) (g : Nat) (a : Nat → Nat) (z : bw_A1) (rows : bw_A1) (asd : bw_A1) (sm : Int32) (buf : bw_A1) (bm : Int32) (th : Int32) (od : bw_A1) (om : Int32) (ow : Int32) (ca : Int32) (bo : Int32) (la : Int32) (pl : Int32) (to : Int32) (rd : bw_A1) (hh : Int64) (p1 : Int32) (r : Int32) (h : fX6_ofProjects z p1 = some r) : bw_M l yX6_ofProjects cX6_ofProjects 4 (some .int) 4 87 G cy g [.ref (a 0), .int p1] (bw_mW cy a z rows asd sm buf bm th od om ow ca bo la pl to rd hh) (some (.int r)) (bw_mW cy a z rows asd sm buf bm th od om ow ca bo la pl to rd hh) := by
  refine bw_ofW (by decide +kernel) RX6 rfl (Nat.le_of_ble_eq_true rfl) ?_
  intro p e s m below meth c ls S hr hlocks hK hZ hI hl
  have hx := S.1
  have hb := S.2.1
  have hown := S.2.2.2.1
  have hts := S.2.2.2.2
  generalize va_A _ s.heap.size = A at hI hZ ⊢
  generalize hQ : MQ below _ _ s 0 0 A = Q
  have hl : lv_has ls 4 [(0, .ref (a 0)), (1, .int p1)] := hl
  have l4 : ∀ (x1 : Int32) (n : Nat) (H : Heap) (locs : List Loc) (ls : Array Slot) (x2 : Int32) (x3 : Int32), lX6_ofProjects_4 z x1 n x2 x3 = some r → bw_I G A s.heap (bw_mW cy a z rows asd sm buf bm th od om ow ca bo la pl to rd hh) H locs → lv_has ls 4 [(0, .ref (a 0)), (1, .int x1), (2, .int x2), (3, .int x3)] → W p l e (bw_rm 4 87) s m [.ref (a 0), .int p1].toArray below meth c H locs 0 0 Q (F0 m 4 ls []) := by
    intro x1 n
    induction n with
    | zero => intro H locs ls x2 x3 h; exact bw_none h
    | succ n ih =>
      intro H locs ls x2 x3 h hI hl
      have h : bX6_ofProjects_4  (lX6_ofProjects_4 z x1 n) z x1 x2 x3 = some r := h
      unfold bX6_ofProjects_4 at h
      refine lv_iload_n hx hb dX6_ofProjects_4 rfl (lv_at hl 3 rfl) ?_
      refine lv_aload_n hx hb dX6_ofProjects_5 rfl (lv_at hl 0 rfl) ?_
      refine bw_get S hK hI 0 0 rfl rfl (by decide) i_X6 f_X6_7 rfl dX6_ofProjects_6 ?_
      refine lv_iconst (v := 0) hx hb dX6_ofProjects_9 rfl ?_
      obtain ⟨v10, hv, h⟩ := bw_b1_e h
      refine bw_iald hx hb hK hI 1 hv rfl dX6_ofProjects_10 ?_
      refine lv_icmp_ge (tgt := 29) hx hb dX6_ofProjects_11 (by decide) (fun c_11 => ?_) (fun c_11 => ?_)
      · rw [if_pos c_11] at h
        refine lv_iload_n hx hb dX6_ofProjects_29 rfl (lv_at hl 2 rfl) ?_
        exact bw_iretP S hr hlocks h hI rfl dX6_ofProjects_30 hQ
      rw [if_neg c_11] at h
      refine lv_iload_n hx hb dX6_ofProjects_14 rfl (lv_at hl 2 rfl) ?_
      refine lv_aload_n hx hb dX6_ofProjects_15 rfl (lv_at hl 0 rfl) ?_
      refine lv_iload_n hx hb dX6_ofProjects_16 rfl (lv_at hl 3 rfl) ?_
      refine lv_iload_n hx hb dX6_ofProjects_17 rfl (lv_at hl 1 rfl) ?_
      obtain ⟨r18, hc, h⟩ := bw_b1_e h
      refine bw_callV S hK hZ hI (mX6_projectOf l G cy g a z rows asd sm buf bm th od om ow ca bo la pl to rd hh x3 x1 r18 hc) Y_X6_projectOf V_X6_projectOf l_X6_179 ⟨(Nat.le_of_ble_eq_true rfl), (Nat.le_of_ble_eq_true rfl)⟩ (q0 := 0) rfl rfl rfl (ws' := (bw_mW cy a z rows asd sm buf bm th od om ow ca bo la pl to rd hh)) (bw_pS _) (bw_pS' _) rfl rfl hl.1 (rest := [.int x2]) (st1 := [.int r18, .int x2]) rfl rfl (Nat.le_of_ble_eq_true rfl) dX6_ofProjects_18 ⟨(Nat.le_of_ble_eq_true rfl), (Nat.le_of_ble_eq_true rfl)⟩ (fun H locs hI => ?_)
      refine lv_iadd hx hb dX6_ofProjects_21 ?_
      refine lv_topi (fun x2_22 e_22 => ?_)
      have h := bw_let_e h e_22
      clear e_22
      refine lv_istore_n (lv' := [(2, .int x2_22), (0, .ref (a 0)), (1, .int x1), (3, .int x3)]) hx hb dX6_ofProjects_22 rfl hl (by decide) rfl (fun ls hl => ?_)
      obtain ⟨x3_23, e_23⟩ : ∃ y : Int32, y = x3 + 1 := ⟨_, rfl⟩
      have h := bw_let_e h e_23
      refine lv_iinc (v := x3_23) (lv' := [(3, .int x3_23), (2, .int x2_22), (0, .ref (a 0)), (1, .int x1)]) hx hb dX6_ofProjects_23 hl (k := 3) rfl (by rw [e_23]; rfl) (by decide) rfl (fun ls hl => ?_)
      clear e_23
      refine lv_goto (tgt := 4) hx hb dX6_ofProjects_26 (by decide) ?_
      exact ih _ _ _ x2_22 x3_23 h hI (lv_sub hl [2,3,1,0] rfl)
  unfold fX6_ofProjects at h
  refine lv_iconst (v := 0) hx hb dX6_ofProjects_0 rfl ?_
  refine lv_istore_n (lv' := [(2, .int 0), (0, .ref (a 0)), (1, .int p1)]) hx hb dX6_ofProjects_1 rfl hl (by decide) rfl (fun ls hl => ?_)
  refine lv_iconst (v := 0) hx hb dX6_ofProjects_2 rfl ?_
  refine lv_istore_n (lv' := [(3, .int 0), (2, .int 0), (0, .ref (a 0)), (1, .int p1)]) hx hb dX6_ofProjects_3 rfl hl (by decide) rfl (fun ls hl => ?_)
  exact l4 p1 bw_fu _ _ _ 0 0 h hI (lv_sub hl [2,3,1,0] rfl)
