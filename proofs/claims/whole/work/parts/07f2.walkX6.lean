set_option maxHeartbeats 4000000 in
set_option maxRecDepth 100000 in
theorem mX6_callBack (l : Launch) (G : va_G) (cy : Nat → ClassId) (g : Nat) (a : Nat → Nat) (z : bw_A1) (rows : bw_A1) (asd : bw_A1) (sm : Int32) (buf : bw_A1) (bm : Int32) (th : Int32) (od : bw_A1) (om : Int32) (ow : Int32) (ca : Int32) (bo : Int32) (la : Int32) (pl : Int32) (to : Int32) (rd : bw_A1) (hh : Int64) (p1 : Int32) (p2 : Int32) (z' : bw_A1) (ca' : Int32) (h : fX6_callBack z ca p1 p2 = some (z', ca')) : bw_M l yX6_callBack cX6_callBack 8 none 3 64 G cy g [.ref (a 0), .int p1, .int p2] (bw_mW cy a z rows asd sm buf bm th od om ow ca bo la pl to rd hh) none (bw_mW cy a z' rows asd sm buf bm th od om ow ca' bo la pl to rd hh) := by
  refine bw_ofW (by decide +kernel) RX6 rfl (Nat.le_of_ble_eq_true rfl) ?_
  intro p e s m below meth c ls S hr hlocks hK hZ hI hl
  have hx := S.1
  have hb := S.2.1
  have hown := S.2.2.2.1
  have hts := S.2.2.2.2
  generalize va_A _ s.heap.size = A at hI hZ ⊢
  generalize hQ : MQ below _ _ s 0 0 A = Q
  have hl : lv_has ls 8 [(0, .ref (a 0)), (1, .int p1), (2, .int p2)] := hl
  have j153 : ∀ (z : bw_A1) (ca : Int32) (x2 : Int32) (x3 : Int32) (H : Heap) (locs : List Loc) (ls : Array Slot), jX6_callBack_153 z ca x2 x3 = some (z', ca') → bw_I G A s.heap (bw_mW cy a z rows asd sm buf bm th od om ow ca bo la pl to rd hh) H locs → lv_has ls 8 [(0, .ref (a 0)), (2, .int x2), (3, .int x3)] → W p l e (bw_rm 3 64) s m [.ref (a 0), .int p1, .int p2].toArray below meth c H locs 0 0 Q (F0 m 153 ls []) := by
    intro z ca x2 x3 H locs ls h hI hl
    unfold jX6_callBack_153 at h
    refine lv_aload_n hx hb dX6_callBack_153 rfl (lv_at hl 0 rfl) ?_
    refine lv_iload_n hx hb dX6_callBack_154 rfl (lv_at hl 1 rfl) ?_
    refine lv_iload_n hx hb dX6_callBack_155 rfl (lv_at hl 2 rfl) ?_
    refine lv_isub hx hb dX6_callBack_156 ?_
    refine lv_topi (fun ca_157 e_157 => ?_)
    have h := bw_let_e h e_157
    clear e_157
    refine bw_put S hK hI 0 10 (ws' := (bw_mW cy a z rows asd sm buf bm th od om ow ca_157 bo la pl to rd hh)) tyX6 tyX6_ok nmX6 rfl rfl (by decide) i_X6 f_X6_80 rfl rfl rfl rfl (Nat.le_of_ble_eq_true rfl) rfl dX6_callBack_157 (fun H locs hI => ?_)
    exact bw_vret (d := (z, ca_157)) (rr := (z', ca')) S hr hlocks h (fun q : (bw_A1 × Int32) => (bw_mW cy a q.1 rows asd sm buf bm th od om ow q.2 bo la pl to rd hh)) hI dX6_callBack_160 hQ
  have j147 : ∀ (z : bw_A1) (ca : Int32) (x1 : Int32) (x2 : Int32) (x3 : Int32) (s0 : Int32) (s1 : Int32) (k5 : bw_A1 → Int32 → Int32 → Option (bw_A1 × Int32)) (hk5 : ∀ (H : Heap) (locs : List Loc) (ls : Array Slot) (z_ : bw_A1) (x3_ : Int32) (x4_ : Int32), k5 z_ x3_ x4_ = some (z', ca') → bw_I G A s.heap (bw_mW cy a z_ rows asd sm buf bm th od om ow ca bo la pl to rd hh) H locs → lv_has ls 8 [(0, .ref (a 0)), (1, .int x1), (2, .int x2), (3, .int x3_), (4, .int x4_)] → W p l e (bw_rm 3 64) s m [.ref (a 0), .int p1, .int p2].toArray below meth c H locs 0 0 Q (F0 m 5 ls [])) (H : Heap) (locs : List Loc) (ls : Array Slot), jX6_callBack_147 k5 z ca x1 x2 x3 s0 s1 = some (z', ca') → bw_I G A s.heap (bw_mW cy a z rows asd sm buf bm th od om ow ca bo la pl to rd hh) H locs → lv_has ls 8 [(0, .ref (a 0)), (1, .int x1), (2, .int x2), (3, .int x3)] → W p l e (bw_rm 3 64) s m [.ref (a 0), .int p1, .int p2].toArray below meth c H locs 0 0 Q (F0 m 147 ls [.int s0, .int s1]) := by
    intro z ca x1 x2 x3 s0 s1 k5 hk5 H locs ls h hI hl
    unfold jX6_callBack_147 at h
    refine lv_iadd hx hb dX6_callBack_147 ?_
    refine lv_topi (fun x4_148 e_148 => ?_)
    have h := bw_let_e h e_148
    clear e_148
    refine lv_istore (lv' := [(4, .int x4_148), (0, .ref (a 0)), (1, .int x1), (2, .int x2), (3, .int x3)]) hx hb dX6_callBack_148 hl (by decide) rfl (fun ls hl => ?_)
    refine lv_goto (tgt := 5) hx hb dX6_callBack_150 (by decide) ?_
    exact hk5 _ _ _ z x3 x4_148 h hI (lv_sub hl [1,2,3,4,0] rfl)
  have j135 : ∀ (z : bw_A1) (ca : Int32) (x1 : Int32) (x2 : Int32) (x3 : Int32) (x4 : Int32) (x5 : Int32) (k5 : bw_A1 → Int32 → Int32 → Option (bw_A1 × Int32)) (hk5 : ∀ (H : Heap) (locs : List Loc) (ls : Array Slot) (z_ : bw_A1) (x3_ : Int32) (x4_ : Int32), k5 z_ x3_ x4_ = some (z', ca') → bw_I G A s.heap (bw_mW cy a z_ rows asd sm buf bm th od om ow ca bo la pl to rd hh) H locs → lv_has ls 8 [(0, .ref (a 0)), (1, .int x1), (2, .int x2), (3, .int x3_), (4, .int x4_)] → W p l e (bw_rm 3 64) s m [.ref (a 0), .int p1, .int p2].toArray below meth c H locs 0 0 Q (F0 m 5 ls [])) (H : Heap) (locs : List Loc) (ls : Array Slot), jX6_callBack_135 k5 z ca x1 x2 x3 x4 x5 = some (z', ca') → bw_I G A s.heap (bw_mW cy a z rows asd sm buf bm th od om ow ca bo la pl to rd hh) H locs → lv_has ls 8 [(0, .ref (a 0)), (1, .int x1), (2, .int x2), (3, .int x3), (4, .int x4), (5, .int x5)] → W p l e (bw_rm 3 64) s m [.ref (a 0), .int p1, .int p2].toArray below meth c H locs 0 0 Q (F0 m 135 ls []) := by
    intro z ca x1 x2 x3 x4 x5 k5 hk5 H locs ls h hI hl
    unfold jX6_callBack_135 at h
    refine lv_iload hx hb dX6_callBack_135 (lv_at hl 4 rfl) ?_
    refine lv_iload hx hb dX6_callBack_137 (lv_at hl 5 rfl) ?_
    refine lv_if_eq (tgt := 146) hx hb dX6_callBack_139 (by decide) (fun c_139 => ?_) (fun c_139 => ?_)
    · rw [if_pos c_139] at h
      refine lv_iconst (v := 1) hx hb dX6_callBack_146 rfl ?_
      exact j147 z ca x1 x2 x3 1 x4 k5 hk5 _ _ _ h hI (lv_sub hl [0,1,2,3] rfl)
    rw [if_neg c_139] at h
    refine lv_iconst (v := 0) hx hb dX6_callBack_142 rfl ?_
    refine lv_goto (tgt := 147) hx hb dX6_callBack_143 (by decide) ?_
    exact j147 z ca x1 x2 x3 0 x4 k5 hk5 _ _ _ h hI (lv_sub hl [0,1,2,3] rfl)
  have j106 : ∀ (z : bw_A1) (ca : Int32) (x1 : Int32) (x2 : Int32) (x3 : Int32) (x4 : Int32) (x6 : Int32) (x7 : Int32) (s0 : Int32) (k5 : bw_A1 → Int32 → Int32 → Option (bw_A1 × Int32)) (hk5 : ∀ (H : Heap) (locs : List Loc) (ls : Array Slot) (z_ : bw_A1) (x3_ : Int32) (x4_ : Int32), k5 z_ x3_ x4_ = some (z', ca') → bw_I G A s.heap (bw_mW cy a z_ rows asd sm buf bm th od om ow ca bo la pl to rd hh) H locs → lv_has ls 8 [(0, .ref (a 0)), (1, .int x1), (2, .int x2), (3, .int x3_), (4, .int x4_)] → W p l e (bw_rm 3 64) s m [.ref (a 0), .int p1, .int p2].toArray below meth c H locs 0 0 Q (F0 m 5 ls [])) (H : Heap) (locs : List Loc) (ls : Array Slot), jX6_callBack_106 k5 z ca x1 x2 x3 x4 x6 x7 s0 = some (z', ca') → bw_I G A s.heap (bw_mW cy a z rows asd sm buf bm th od om ow ca bo la pl to rd hh) H locs → lv_has ls 8 [(0, .ref (a 0)), (1, .int x1), (2, .int x2), (3, .int x3), (4, .int x4), (6, .int x6), (7, .int x7)] → W p l e (bw_rm 3 64) s m [.ref (a 0), .int p1, .int p2].toArray below meth c H locs 0 0 Q (F0 m 106 ls [.int s0]) := by
    intro z ca x1 x2 x3 x4 x6 x7 s0 k5 hk5 H locs ls h hI hl
    unfold jX6_callBack_106 at h
    refine lv_istore (lv' := [(5, .int s0), (0, .ref (a 0)), (1, .int x1), (2, .int x2), (3, .int x3), (4, .int x4), (6, .int x6), (7, .int x7)]) hx hb dX6_callBack_106 hl (by decide) rfl (fun ls hl => ?_)
    refine lv_aload_n hx hb dX6_callBack_108 rfl (lv_at hl 1 rfl) ?_
    refine bw_get S hK hI 0 0 rfl rfl (by decide) i_X6 f_X6_7 rfl dX6_callBack_109 ?_
    refine lv_iload hx hb dX6_callBack_112 (lv_at hl 6 rfl) ?_
    refine lv_iconst (v := 2) hx hb dX6_callBack_114 rfl ?_
    refine lv_iadd hx hb dX6_callBack_115 ?_
    refine lv_dup2_11 hx hb dX6_callBack_116 rfl rfl ?_
    obtain ⟨v117, hv, h⟩ := bw_b1_e h
    refine bw_iald hx hb hK hI 1 hv rfl dX6_callBack_117 ?_
    refine lv_iload hx hb dX6_callBack_118 (lv_at hl 7 rfl) ?_
    refine lv_isub hx hb dX6_callBack_120 ?_
    obtain ⟨z_121, hv, h⟩ := bw_b1_e h
    refine bw_iast hx hb hK hI 1 (ws' := (bw_mW cy a z_121 rows asd sm buf bm th od om ow ca bo la pl to rd hh)) hv rfl rfl dX6_callBack_121 (fun H locs hI => ?_)
    refine lv_iload_n hx hb dX6_callBack_122 rfl (lv_at hl 4 rfl) ?_
    refine lv_iload hx hb dX6_callBack_123 (lv_at hl 7 rfl) ?_
    refine lv_isub hx hb dX6_callBack_125 ?_
    refine lv_topi (fun x3_126 e_126 => ?_)
    have h := bw_let_e h e_126
    clear e_126
    refine lv_istore_n (lv' := [(3, .int x3_126), (5, .int s0), (0, .ref (a 0)), (1, .int x1), (2, .int x2), (4, .int x4), (6, .int x6), (7, .int x7)]) hx hb dX6_callBack_126 rfl hl (by decide) rfl (fun ls hl => ?_)
    refine lv_aload_n hx hb dX6_callBack_127 rfl (lv_at hl 2 rfl) ?_
    refine lv_iload hx hb dX6_callBack_128 (lv_at hl 5 rfl) ?_
    refine lv_iload hx hb dX6_callBack_130 (lv_at hl 7 rfl) ?_
    obtain ⟨z_132, hc, h⟩ := bw_b1_e h
    refine bw_callV S hK hZ hI (mX6_cutLoan l G cy g a z_121 rows asd sm buf bm th od om ow ca bo la pl to rd hh x4 x7 z_132 hc) Y_X6_cutLoan V_X6_cutLoan l_X6_64 ⟨(Nat.le_of_ble_eq_true rfl), (Nat.le_of_ble_eq_true rfl)⟩ (q0 := 0) rfl rfl rfl (ws' := (bw_mW cy a z_132 rows asd sm buf bm th od om ow ca bo la pl to rd hh)) (bw_pS _) (bw_pS' _) rfl rfl hl.1 (rest := []) (st1 := []) rfl rfl (Nat.le_of_ble_eq_true rfl) dX6_callBack_132 ⟨(Nat.le_of_ble_eq_true rfl), (Nat.le_of_ble_eq_true rfl)⟩ (fun H locs hI => ?_)
    exact j135 z_132 ca x1 x2 x3_126 x4 s0 k5 hk5 _ _ _ h hI (lv_sub hl [2,3,4,0,5,1] rfl)
  have l5 : ∀ (ca : Int32) (x1 : Int32) (x2 : Int32) (n : Nat) (H : Heap) (locs : List Loc) (ls : Array Slot) (z : bw_A1) (x3 : Int32) (x4 : Int32), lX6_callBack_5 ca x1 x2 n z x3 x4 = some (z', ca') → bw_I G A s.heap (bw_mW cy a z rows asd sm buf bm th od om ow ca bo la pl to rd hh) H locs → lv_has ls 8 [(0, .ref (a 0)), (1, .int x1), (2, .int x2), (3, .int x3), (4, .int x4)] → W p l e (bw_rm 3 64) s m [.ref (a 0), .int p1, .int p2].toArray below meth c H locs 0 0 Q (F0 m 5 ls []) := by
    intro ca x1 x2 n
    induction n with
    | zero => intro H locs ls z x3 x4 h; exact bw_none h
    | succ n ih =>
      intro H locs ls z x3 x4 h hI hl
      have h : bX6_callBack_5  (lX6_callBack_5 ca x1 x2 n) ca x1 x2 z x3 x4 = some (z', ca') := h
      unfold bX6_callBack_5 at h
      refine lv_iload hx hb dX6_callBack_5 (lv_at hl 4 rfl) ?_
      refine lv_aload_n hx hb dX6_callBack_7 rfl (lv_at hl 0 rfl) ?_
      refine bw_get S hK hI 0 0 rfl rfl (by decide) i_X6 f_X6_7 rfl dX6_callBack_8 ?_
      refine lv_iconst (v := 1) hx hb dX6_callBack_11 rfl ?_
      obtain ⟨v12, hv, h⟩ := bw_b1_e h
      refine bw_iald hx hb hK hI 1 hv rfl dX6_callBack_12 ?_
      refine lv_icmp_ge (tgt := 153) hx hb dX6_callBack_13 (by decide) (fun c_13 => ?_) (fun c_13 => ?_)
      · rw [if_pos c_13] at h
        exact j153 z ca x2 x3 _ _ _ h hI (lv_sub hl [0,2,3] rfl)
      rw [if_neg c_13] at h
      refine lv_iload_n hx hb dX6_callBack_16 rfl (lv_at hl 3 rfl) ?_
      refine lv_if_le (tgt := 153) hx hb dX6_callBack_17 (by decide) (fun c_17 => ?_) (fun c_17 => ?_)
      · rw [if_pos c_17] at h
        exact j153 z ca x2 x3 _ _ _ h hI (lv_sub hl [0,2,3] rfl)
      rw [if_neg c_17] at h
      refine lv_iconst (v := 0) hx hb dX6_callBack_20 rfl ?_
      refine lv_istore (lv' := [(5, .int 0), (0, .ref (a 0)), (1, .int x1), (2, .int x2), (3, .int x3), (4, .int x4)]) hx hb dX6_callBack_21 hl (by decide) rfl (fun ls hl => ?_)
      refine lv_aload_n hx hb dX6_callBack_23 rfl (lv_at hl 1 rfl) ?_
      refine bw_get S hK hI 0 0 rfl rfl (by decide) i_X6 f_X6_7 rfl dX6_callBack_24 ?_
      refine lv_iload hx hb dX6_callBack_27 (lv_at hl 5 rfl) ?_
      obtain ⟨r29, hc, h⟩ := bw_b1_e h
      refine bw_callP S hK hZ hI (mX6_loanAt l G cy g x4 r29 hc) Y_X6_loanAt V_X6_loanAt l_X6_50 ⟨(Nat.le_of_ble_eq_true rfl), (Nat.le_of_ble_eq_true rfl)⟩ (rest := [.ref (a 1)]) (st1 := [.int r29, .ref (a 1)]) rfl hl.1 rfl rfl (Nat.le_of_ble_eq_true rfl) dX6_callBack_29 ⟨(Nat.le_of_ble_eq_true rfl), (Nat.le_of_ble_eq_true rfl)⟩ (fun H locs hI => ?_)
      obtain ⟨v32, hv, h⟩ := bw_b1_e h
      refine bw_iald hx hb hK hI 1 hv rfl dX6_callBack_32 ?_
      refine lv_iload_n hx hb dX6_callBack_33 rfl (lv_at hl 2 rfl) ?_
      refine lv_icmp_ne (tgt := 135) hx hb dX6_callBack_34 (by decide) (fun c_34 => ?_) (fun c_34 => ?_)
      · rw [if_neg c_34] at h
        exact j135 z ca x1 x2 x3 x4 0 (lX6_callBack_5 ca x1 x2 n) ih _ _ _ h hI (lv_sub hl [1,2,3,4,5,0] rfl)
      rw [if_pos c_34] at h
      refine lv_aload_n hx hb dX6_callBack_37 rfl (lv_at hl 1 rfl) ?_
      refine bw_get S hK hI 0 0 rfl rfl (by decide) i_X6 f_X6_7 rfl dX6_callBack_38 ?_
      refine lv_iload hx hb dX6_callBack_41 (lv_at hl 5 rfl) ?_
      obtain ⟨r43, hc, h⟩ := bw_b1_e h
      refine bw_callP S hK hZ hI (mX6_loanAt l G cy g x4 r43 hc) Y_X6_loanAt V_X6_loanAt l_X6_50 ⟨(Nat.le_of_ble_eq_true rfl), (Nat.le_of_ble_eq_true rfl)⟩ (rest := [.ref (a 1)]) (st1 := [.int r43, .ref (a 1)]) rfl hl.1 rfl rfl (Nat.le_of_ble_eq_true rfl) dX6_callBack_43 ⟨(Nat.le_of_ble_eq_true rfl), (Nat.le_of_ble_eq_true rfl)⟩ (fun H locs hI => ?_)
      refine lv_iconst (v := 1) hx hb dX6_callBack_46 rfl ?_
      refine lv_iadd hx hb dX6_callBack_47 ?_
      obtain ⟨v48, hv, h⟩ := bw_b1_e h
      refine bw_iald hx hb hK hI 1 hv rfl dX6_callBack_48 ?_
      obtain ⟨r49, hc, h⟩ := bw_b1_e h
      refine bw_callP S hK hZ hI (mX6_at l G cy g v48 r49 hc) Y_X6_at V_X6_at l_X6_39 ⟨(Nat.le_of_ble_eq_true rfl), (Nat.le_of_ble_eq_true rfl)⟩ (rest := []) (st1 := [.int r49]) rfl hl.1 rfl rfl (Nat.le_of_ble_eq_true rfl) dX6_callBack_49 ⟨(Nat.le_of_ble_eq_true rfl), (Nat.le_of_ble_eq_true rfl)⟩ (fun H locs hI => ?_)
      refine lv_istore (lv' := [(6, .int r49), (5, .int 0), (0, .ref (a 0)), (1, .int x1), (2, .int x2), (3, .int x3), (4, .int x4)]) hx hb dX6_callBack_52 hl (by decide) rfl (fun ls hl => ?_)
      refine lv_iload_n hx hb dX6_callBack_54 rfl (lv_at hl 5 rfl) ?_
      refine lv_aload_n hx hb dX6_callBack_55 rfl (lv_at hl 2 rfl) ?_
      refine bw_get S hK hI 0 0 rfl rfl (by decide) i_X6 f_X6_7 rfl dX6_callBack_56 ?_
      refine lv_iload hx hb dX6_callBack_59 (lv_at hl 6 rfl) ?_
      obtain ⟨r61, hc, h⟩ := bw_b1_e h
      refine bw_callP S hK hZ hI (mX6_loanAt l G cy g x4 r61 hc) Y_X6_loanAt V_X6_loanAt l_X6_50 ⟨(Nat.le_of_ble_eq_true rfl), (Nat.le_of_ble_eq_true rfl)⟩ (rest := [.ref (a 1), .int x3]) (st1 := [.int r61, .ref (a 1), .int x3]) rfl hl.1 rfl rfl (Nat.le_of_ble_eq_true rfl) dX6_callBack_61 ⟨(Nat.le_of_ble_eq_true rfl), (Nat.le_of_ble_eq_true rfl)⟩ (fun H locs hI => ?_)
      refine lv_iconst (v := 2) hx hb dX6_callBack_64 rfl ?_
      refine lv_iadd hx hb dX6_callBack_65 ?_
      obtain ⟨v66, hv, h⟩ := bw_b1_e h
      refine bw_iald hx hb hK hI 1 hv rfl dX6_callBack_66 ?_
      refine lv_aload_n hx hb dX6_callBack_67 rfl (lv_at hl 2 rfl) ?_
      refine bw_get S hK hI 0 0 rfl rfl (by decide) i_X6 f_X6_7 rfl dX6_callBack_68 ?_
      refine lv_iload hx hb dX6_callBack_71 (lv_at hl 0 rfl) ?_
      refine lv_iconst (v := 2) hx hb dX6_callBack_73 rfl ?_
      refine lv_iadd hx hb dX6_callBack_74 ?_
      obtain ⟨v75, hv, h⟩ := bw_b1_e h
      refine bw_iald hx hb hK hI 1 hv rfl dX6_callBack_75 ?_
      obtain ⟨r76, hc, h⟩ := bw_b1_e h
      refine bw_callP S hK hZ hI (mX6_least l G cy g v66 v75 r76 hc) Y_X6_least V_X6_least l_X6_61 ⟨(Nat.le_of_ble_eq_true rfl), (Nat.le_of_ble_eq_true rfl)⟩ (rest := [.int x3]) (st1 := [.int r76, .int x3]) rfl hl.1 rfl rfl (Nat.le_of_ble_eq_true rfl) dX6_callBack_76 ⟨(Nat.le_of_ble_eq_true rfl), (Nat.le_of_ble_eq_true rfl)⟩ (fun H locs hI => ?_)
      obtain ⟨r79, hc, h⟩ := bw_b1_e h
      refine bw_callP S hK hZ hI (mX6_least l G cy g x3 r76 r79 hc) Y_X6_least V_X6_least l_X6_61 ⟨(Nat.le_of_ble_eq_true rfl), (Nat.le_of_ble_eq_true rfl)⟩ (rest := []) (st1 := [.int r79]) rfl hl.1 rfl rfl (Nat.le_of_ble_eq_true rfl) dX6_callBack_79 ⟨(Nat.le_of_ble_eq_true rfl), (Nat.le_of_ble_eq_true rfl)⟩ (fun H locs hI => ?_)
      refine lv_istore (lv' := [(7, .int r79), (6, .int r49), (5, .int 0), (0, .ref (a 0)), (1, .int x1), (2, .int x2), (3, .int x3), (4, .int x4)]) hx hb dX6_callBack_82 hl (by decide) rfl (fun ls hl => ?_)
      refine lv_iload hx hb dX6_callBack_84 (lv_at hl 0 rfl) ?_
      refine lv_aload_n hx hb dX6_callBack_86 rfl (lv_at hl 3 rfl) ?_
      refine bw_get S hK hI 0 0 rfl rfl (by decide) i_X6 f_X6_7 rfl dX6_callBack_87 ?_
      refine lv_iload hx hb dX6_callBack_90 (lv_at hl 7 rfl) ?_
      obtain ⟨r92, hc, h⟩ := bw_b1_e h
      refine bw_callP S hK hZ hI (mX6_loanAt l G cy g x4 r92 hc) Y_X6_loanAt V_X6_loanAt l_X6_50 ⟨(Nat.le_of_ble_eq_true rfl), (Nat.le_of_ble_eq_true rfl)⟩ (rest := [.ref (a 1), .int r79]) (st1 := [.int r92, .ref (a 1), .int r79]) rfl hl.1 rfl rfl (Nat.le_of_ble_eq_true rfl) dX6_callBack_92 ⟨(Nat.le_of_ble_eq_true rfl), (Nat.le_of_ble_eq_true rfl)⟩ (fun H locs hI => ?_)
      refine lv_iconst (v := 2) hx hb dX6_callBack_95 rfl ?_
      refine lv_iadd hx hb dX6_callBack_96 ?_
      obtain ⟨v97, hv, h⟩ := bw_b1_e h
      refine bw_iald hx hb hK hI 1 hv rfl dX6_callBack_97 ?_
      refine lv_icmp_ne (tgt := 105) hx hb dX6_callBack_98 (by decide) (fun c_98 => ?_) (fun c_98 => ?_)
      · rw [if_neg c_98] at h
        refine lv_iconst (v := 0) hx hb dX6_callBack_105 rfl ?_
        exact j106 z ca x1 x2 x3 x4 r49 r79 0 (lX6_callBack_5 ca x1 x2 n) ih _ _ _ h hI (lv_sub hl [3,4,5,6,7,1,0] rfl)
      rw [if_pos c_98] at h
      refine lv_iconst (v := 1) hx hb dX6_callBack_101 rfl ?_
      refine lv_goto (tgt := 106) hx hb dX6_callBack_102 (by decide) ?_
      exact j106 z ca x1 x2 x3 x4 r49 r79 1 (lX6_callBack_5 ca x1 x2 n) ih _ _ _ h hI (lv_sub hl [3,4,5,6,7,1,0] rfl)
  unfold fX6_callBack at h
  refine lv_iload_n hx hb dX6_callBack_0 rfl (lv_at hl 2 rfl) ?_
  refine lv_istore_n (lv' := [(3, .int p2), (0, .ref (a 0)), (1, .int p1), (2, .int p2)]) hx hb dX6_callBack_1 rfl hl (by decide) rfl (fun ls hl => ?_)
  refine lv_iconst (v := 0) hx hb dX6_callBack_2 rfl ?_
  refine lv_istore (lv' := [(4, .int 0), (3, .int p2), (0, .ref (a 0)), (1, .int p1), (2, .int p2)]) hx hb dX6_callBack_3 hl (by decide) rfl (fun ls hl => ?_)
  exact l5 ca p1 p2 bw_fu _ _ _ z p2 0 h hI (lv_sub hl [2,3,4,1,0] rfl)
set_option maxHeartbeats 4000000 in
set_option maxRecDepth 100000 in
theorem mX6_borrow (l : Launch) (G : va_G) (cy : Nat → ClassId) (g : Nat) (a : Nat → Nat) (z : bw_A1) (rows : bw_A1) (asd : bw_A1) (sm : Int32) (buf : bw_A1) (bm : Int32) (th : Int32) (od : bw_A1) (om : Int32) (ow : Int32) (ca : Int32) (bo : Int32) (la : Int32) (pl : Int32) (to : Int32) (rd : bw_A1) (hh : Int64) (p1 : Int32) (p2 : Int32) (z' : bw_A1) (od' : bw_A1) (om' : Int32) (bo' : Int32) (la' : Int32) (h : fX6_borrow z od om bo la p1 p2 = some (z', od', om', bo', la')) : bw_M l yX6_borrow cX6_borrow 6 none 5 111 G cy g [.ref (a 0), .int p1, .int p2] (bw_mW cy a z rows asd sm buf bm th od om ow ca bo la pl to rd hh) none (bw_mW cy a z' rows asd sm buf bm th od' om' ow ca bo' la' pl to rd hh) := by
  refine bw_ofW (by decide +kernel) RX6 rfl (Nat.le_of_ble_eq_true rfl) ?_
  intro p e s m below meth c ls S hr hlocks hK hZ hI hl
  have hx := S.1
  have hb := S.2.1
  have hown := S.2.2.2.1
  have hts := S.2.2.2.2
  generalize va_A _ s.heap.size = A at hI hZ ⊢
  generalize hQ : MQ below _ _ s 0 0 A = Q
  have hl : lv_has ls 6 [(0, .ref (a 0)), (1, .int p1), (2, .int p2)] := hl
  have j87 : ∀ (z : bw_A1) (od : bw_A1) (om : Int32) (bo : Int32) (la : Int32) (x2 : Int32) (x3 : Int32) (H : Heap) (locs : List Loc) (ls : Array Slot), jX6_borrow_87 z od om bo la x2 x3 = some (z', od', om', bo', la') → bw_I G A s.heap (bw_mW cy a z rows asd sm buf bm th od om ow ca bo la pl to rd hh) H locs → lv_has ls 6 [(0, .ref (a 0)), (2, .int x2), (3, .int x3)] → W p l e (bw_rm 5 111) s m [.ref (a 0), .int p1, .int p2].toArray below meth c H locs 0 0 Q (F0 m 87 ls []) := by
    intro z od om bo la x2 x3 H locs ls h hI hl
    unfold jX6_borrow_87 at h
    refine lv_aload_n hx hb dX6_borrow_87 rfl (lv_at hl 0 rfl) ?_
    refine lv_iload_n hx hb dX6_borrow_88 rfl (lv_at hl 1 rfl) ?_
    refine lv_iload_n hx hb dX6_borrow_89 rfl (lv_at hl 2 rfl) ?_
    refine lv_isub hx hb dX6_borrow_90 ?_
    refine lv_topi (fun bo_91 e_91 => ?_)
    have h := bw_let_e h e_91
    clear e_91
    refine bw_put S hK hI 0 11 (ws' := (bw_mW cy a z rows asd sm buf bm th od om ow ca bo_91 la pl to rd hh)) tyX6 tyX6_ok nmX6 rfl rfl (by decide) i_X6 f_X6_90 rfl rfl rfl rfl (Nat.le_of_ble_eq_true rfl) rfl dX6_borrow_91 (fun H locs hI => ?_)
    refine lv_aload_n hx hb dX6_borrow_94 rfl (lv_at hl 0 rfl) ?_
    refine lv_iload_n hx hb dX6_borrow_95 rfl (lv_at hl 2 rfl) ?_
    refine bw_put S hK hI 0 12 (ws' := (bw_mW cy a z rows asd sm buf bm th od om ow ca bo_91 x3 pl to rd hh)) tyX6 tyX6_ok nmX6 rfl rfl (by decide) i_X6 f_X6_93 rfl rfl rfl rfl (Nat.le_of_ble_eq_true rfl) rfl dX6_borrow_96 (fun H locs hI => ?_)
    exact bw_vret (d := (z, od, om, bo_91, x3)) (rr := (z', od', om', bo', la')) S hr hlocks h (fun q : (bw_A1 × bw_A1 × Int32 × Int32 × Int32) => (bw_mW cy a q.1 rows asd sm buf bm th q.2.1 q.2.2.1 ow ca q.2.2.2.1 q.2.2.2.2 pl to rd hh)) hI dX6_borrow_99 hQ
  have l10 : ∀ (od : bw_A1) (om : Int32) (bo : Int32) (la : Int32) (x1 : Int32) (x2 : Int32) (n : Nat) (H : Heap) (locs : List Loc) (ls : Array Slot) (z : bw_A1) (x3 : Int32) (x4 : Int32), lX6_borrow_10 od om bo la x1 x2 n z x3 x4 = some (z', od', om', bo', la') → bw_I G A s.heap (bw_mW cy a z rows asd sm buf bm th od om ow ca bo la pl to rd hh) H locs → lv_has ls 6 [(0, .ref (a 0)), (1, .int x1), (2, .int x2), (3, .int x3), (4, .int x4)] → W p l e (bw_rm 5 111) s m [.ref (a 0), .int p1, .int p2].toArray below meth c H locs 0 0 Q (F0 m 10 ls []) := by
    intro od om bo la x1 x2 n
    induction n with
    | zero => intro H locs ls z x3 x4 h; exact bw_none h
    | succ n ih =>
      intro H locs ls z x3 x4 h hI hl
      have h : bX6_borrow_10  (lX6_borrow_10 od om bo la x1 x2 n) od om bo la x1 x2 z x3 x4 = some (z', od', om', bo', la') := h
      unfold bX6_borrow_10 at h
      refine lv_iload hx hb dX6_borrow_10 (lv_at hl 4 rfl) ?_
      refine lv_aload_n hx hb dX6_borrow_12 rfl (lv_at hl 0 rfl) ?_
      refine bw_get S hK hI 0 8 rfl rfl (by decide) i_X6 f_X6_74 rfl dX6_borrow_13 ?_
      refine lv_icmp_ge (tgt := 87) hx hb dX6_borrow_16 (by decide) (fun c_16 => ?_) (fun c_16 => ?_)
      · rw [if_pos c_16] at h
        exact j87 z od om bo la x2 x3 _ _ _ h hI (lv_sub hl [0,2,3] rfl)
      rw [if_neg c_16] at h
      refine lv_iload_n hx hb dX6_borrow_19 rfl (lv_at hl 3 rfl) ?_
      refine lv_if_le (tgt := 87) hx hb dX6_borrow_20 (by decide) (fun c_20 => ?_) (fun c_20 => ?_)
      · rw [if_pos c_20] at h
        exact j87 z od om bo la x2 x3 _ _ _ h hI (lv_sub hl [0,2,3] rfl)
      rw [if_neg c_20] at h
      refine lv_iload_n hx hb dX6_borrow_23 rfl (lv_at hl 3 rfl) ?_
      refine lv_aload_n hx hb dX6_borrow_24 rfl (lv_at hl 0 rfl) ?_
      refine lv_aload_n hx hb dX6_borrow_25 rfl (lv_at hl 0 rfl) ?_
      refine bw_get S hK hI 0 7 rfl rfl (by decide) i_X6 f_X6_22 rfl dX6_borrow_26 ?_
      refine lv_iload hx hb dX6_borrow_29 (lv_at hl 4 rfl) ?_
      obtain ⟨v31, hv, h⟩ := bw_b1_e h
      refine bw_iald hx hb hK hI 5 hv rfl dX6_borrow_31 ?_
      obtain ⟨r32, hc, h⟩ := bw_b1_e h
      refine bw_callV S hK hZ hI (mX6_canLend l G cy g a z rows asd sm buf bm th od om ow ca bo la pl to rd hh v31 r32 hc) Y_X6_canLend V_X6_canLend l_X6_68 ⟨(Nat.le_of_ble_eq_true rfl), (Nat.le_of_ble_eq_true rfl)⟩ (q0 := 0) rfl rfl rfl (ws' := (bw_mW cy a z rows asd sm buf bm th od om ow ca bo la pl to rd hh)) (bw_pS _) (bw_pS' _) rfl rfl hl.1 (rest := [.int x3]) (st1 := [.int r32, .int x3]) rfl rfl (Nat.le_of_ble_eq_true rfl) dX6_borrow_32 ⟨(Nat.le_of_ble_eq_true rfl), (Nat.le_of_ble_eq_true rfl)⟩ (fun H locs hI => ?_)
      obtain ⟨r35, hc, h⟩ := bw_b1_e h
      refine bw_callP S hK hZ hI (mX6_least l G cy g x3 r32 r35 hc) Y_X6_least V_X6_least l_X6_61 ⟨(Nat.le_of_ble_eq_true rfl), (Nat.le_of_ble_eq_true rfl)⟩ (rest := []) (st1 := [.int r35]) rfl hl.1 rfl rfl (Nat.le_of_ble_eq_true rfl) dX6_borrow_35 ⟨(Nat.le_of_ble_eq_true rfl), (Nat.le_of_ble_eq_true rfl)⟩ (fun H locs hI => ?_)
      refine lv_istore (lv' := [(5, .int r35), (0, .ref (a 0)), (1, .int x1), (2, .int x2), (3, .int x3), (4, .int x4)]) hx hb dX6_borrow_38 hl (by decide) rfl (fun ls hl => ?_)
      refine lv_aload_n hx hb dX6_borrow_40 rfl (lv_at hl 1 rfl) ?_
      refine lv_aload_n hx hb dX6_borrow_41 rfl (lv_at hl 1 rfl) ?_
      refine bw_get S hK hI 0 7 rfl rfl (by decide) i_X6 f_X6_22 rfl dX6_borrow_42 ?_
      refine lv_iload hx hb dX6_borrow_45 (lv_at hl 5 rfl) ?_
      obtain ⟨v47, hv, h⟩ := bw_b1_e h
      refine bw_iald hx hb hK hI 5 hv rfl dX6_borrow_47 ?_
      refine lv_iload_n hx hb dX6_borrow_48 rfl (lv_at hl 2 rfl) ?_
      refine lv_iload hx hb dX6_borrow_49 (lv_at hl 0 rfl) ?_
      obtain ⟨z_51, hc, h⟩ := bw_b1_e h
      refine bw_callV S hK hZ hI (mX6_addLoan l G cy g a z rows asd sm buf bm th od om ow ca bo la pl to rd hh v47 x1 r35 z_51 hc) Y_X6_addLoan V_X6_addLoan l_X6_86 ⟨(Nat.le_of_ble_eq_true rfl), (Nat.le_of_ble_eq_true rfl)⟩ (q0 := 0) rfl rfl rfl (ws' := (bw_mW cy a z_51 rows asd sm buf bm th od om ow ca bo la pl to rd hh)) (bw_pS _) (bw_pS' _) rfl rfl hl.1 (rest := []) (st1 := []) rfl rfl (Nat.le_of_ble_eq_true rfl) dX6_borrow_51 ⟨(Nat.le_of_ble_eq_true rfl), (Nat.le_of_ble_eq_true rfl)⟩ (fun H locs hI => ?_)
      refine lv_aload_n hx hb dX6_borrow_54 rfl (lv_at hl 1 rfl) ?_
      refine bw_get S hK hI 0 0 rfl rfl (by decide) i_X6 f_X6_7 rfl dX6_borrow_55 ?_
      refine lv_aload_n hx hb dX6_borrow_58 rfl (lv_at hl 1 rfl) ?_
      refine bw_get S hK hI 0 7 rfl rfl (by decide) i_X6 f_X6_22 rfl dX6_borrow_59 ?_
      refine lv_iload hx hb dX6_borrow_62 (lv_at hl 5 rfl) ?_
      obtain ⟨v64, hv, h⟩ := bw_b1_e h
      refine bw_iald hx hb hK hI 5 hv rfl dX6_borrow_64 ?_
      obtain ⟨r65, hc, h⟩ := bw_b1_e h
      refine bw_callP S hK hZ hI (mX6_at l G cy g v64 r65 hc) Y_X6_at V_X6_at l_X6_39 ⟨(Nat.le_of_ble_eq_true rfl), (Nat.le_of_ble_eq_true rfl)⟩ (rest := [.ref (a 1)]) (st1 := [.int r65, .ref (a 1)]) rfl hl.1 rfl rfl (Nat.le_of_ble_eq_true rfl) dX6_borrow_65 ⟨(Nat.le_of_ble_eq_true rfl), (Nat.le_of_ble_eq_true rfl)⟩ (fun H locs hI => ?_)
      refine lv_iconst (v := 2) hx hb dX6_borrow_68 rfl ?_
      refine lv_iadd hx hb dX6_borrow_69 ?_
      refine lv_dup2_11 hx hb dX6_borrow_70 rfl rfl ?_
      obtain ⟨v71, hv, h⟩ := bw_b1_e h
      refine bw_iald hx hb hK hI 1 hv rfl dX6_borrow_71 ?_
      refine lv_iload hx hb dX6_borrow_72 (lv_at hl 0 rfl) ?_
      refine lv_isub hx hb dX6_borrow_74 ?_
      obtain ⟨z_75, hv, h⟩ := bw_b1_e h
      refine bw_iast hx hb hK hI 1 (ws' := (bw_mW cy a z_75 rows asd sm buf bm th od om ow ca bo la pl to rd hh)) hv rfl rfl dX6_borrow_75 (fun H locs hI => ?_)
      refine lv_iload_n hx hb dX6_borrow_76 rfl (lv_at hl 4 rfl) ?_
      refine lv_iload hx hb dX6_borrow_77 (lv_at hl 0 rfl) ?_
      refine lv_isub hx hb dX6_borrow_79 ?_
      refine lv_topi (fun x3_80 e_80 => ?_)
      have h := bw_let_e h e_80
      clear e_80
      refine lv_istore_n (lv' := [(3, .int x3_80), (5, .int r35), (0, .ref (a 0)), (1, .int x1), (2, .int x2), (4, .int x4)]) hx hb dX6_borrow_80 rfl hl (by decide) rfl (fun ls hl => ?_)
      obtain ⟨x4_81, e_81⟩ : ∃ y : Int32, y = x4 + 1 := ⟨_, rfl⟩
      have h := bw_let_e h e_81
      refine lv_iinc (v := x4_81) (lv' := [(4, .int x4_81), (3, .int x3_80), (5, .int r35), (0, .ref (a 0)), (1, .int x1), (2, .int x2)]) hx hb dX6_borrow_81 hl (k := 5) rfl (by rw [e_81]; rfl) (by decide) rfl (fun ls hl => ?_)
      clear e_81
      refine lv_goto (tgt := 10) hx hb dX6_borrow_84 (by decide) ?_
      exact ih _ _ _ z_75 x3_80 x4_81 h hI (lv_sub hl [3,4,5,1,0] rfl)
  unfold fX6_borrow at h
  refine lv_iload_n hx hb dX6_borrow_0 rfl (lv_at hl 2 rfl) ?_
  refine lv_istore_n (lv' := [(3, .int p2), (0, .ref (a 0)), (1, .int p1), (2, .int p2)]) hx hb dX6_borrow_1 rfl hl (by decide) rfl (fun ls hl => ?_)
  refine lv_aload_n hx hb dX6_borrow_2 rfl (lv_at hl 1 rfl) ?_
  refine lv_iload_n hx hb dX6_borrow_3 rfl (lv_at hl 2 rfl) ?_
  obtain ⟨od_4, om_4, hc, h⟩ := bw_b2_e h
  refine bw_callV S hK hZ hI (mX6_layOrder l G cy g a z rows asd sm buf bm th od om ow ca bo la pl to rd hh p1 od_4 om_4 hc) Y_X6_layOrder V_X6_layOrder l_X6_83 ⟨(Nat.le_of_ble_eq_true rfl), (Nat.le_of_ble_eq_true rfl)⟩ (q0 := 0) rfl rfl rfl (ws' := (bw_mW cy a z rows asd sm buf bm th od_4 om_4 ow ca bo la pl to rd hh)) (bw_pS _) (bw_pS' _) rfl rfl hl.1 (rest := []) (st1 := []) rfl rfl (Nat.le_of_ble_eq_true rfl) dX6_borrow_4 ⟨(Nat.le_of_ble_eq_true rfl), (Nat.le_of_ble_eq_true rfl)⟩ (fun H locs hI => ?_)
  refine lv_iconst (v := 0) hx hb dX6_borrow_7 rfl ?_
  refine lv_istore (lv' := [(4, .int 0), (3, .int p2), (0, .ref (a 0)), (1, .int p1), (2, .int p2)]) hx hb dX6_borrow_8 hl (by decide) rfl (fun ls hl => ?_)
  exact l10 od_4 om_4 bo la p1 p2 bw_fu _ _ _ z p2 0 h hI (lv_sub hl [2,3,4,1,0] rfl)
set_option maxHeartbeats 4000000 in
set_option maxRecDepth 100000 in
theorem mX6_charge (l : Launch) (G : va_G) (cy : Nat → ClassId) (g : Nat) (a : Nat → Nat) (z : bw_A1) (rows : bw_A1) (asd : bw_A1) (sm : Int32) (buf : bw_A1) (bm : Int32) (th : Int32) (od : bw_A1) (om : Int32) (ow : Int32) (ca : Int32) (bo : Int32) (la : Int32) (pl : Int32) (to : Int32) (rd : bw_A1) (hh : Int64) (p1 : Int32) (p2 : Int32) (z' : bw_A1) (od' : bw_A1) (om' : Int32) (ow' : Int32) (ca' : Int32) (bo' : Int32) (la' : Int32) (h : fX6_charge z od om ow ca bo la p1 p2 = some (z', od', om', ow', ca', bo', la')) : bw_M l yX6_charge cX6_charge 4 none 6 136 G cy g [.ref (a 0), .int p1, .int p2] (bw_mW cy a z rows asd sm buf bm th od om ow ca bo la pl to rd hh) none (bw_mW cy a z' rows asd sm buf bm th od' om' ow' ca' bo' la' pl to rd hh) := by
  refine bw_ofW (by decide +kernel) RX6 rfl (Nat.le_of_ble_eq_true rfl) ?_
  intro p e s m below meth c ls S hr hlocks hK hZ hI hl
  have hx := S.1
  have hb := S.2.1
  have hown := S.2.2.2.1
  have hts := S.2.2.2.2
  generalize va_A _ s.heap.size = A at hI hZ ⊢
  generalize hQ : MQ below _ _ s 0 0 A = Q
  have hl : lv_has ls 4 [(0, .ref (a 0)), (1, .int p1), (2, .int p2)] := hl
  unfold fX6_charge at h
  refine lv_iload_n hx hb dX6_charge_0 rfl (lv_at hl 1 rfl) ?_
  obtain ⟨r1, hc, h⟩ := bw_b1_e h
  refine bw_callP S hK hZ hI (mX6_at l G cy g p1 r1 hc) Y_X6_at V_X6_at l_X6_39 ⟨(Nat.le_of_ble_eq_true rfl), (Nat.le_of_ble_eq_true rfl)⟩ (rest := []) (st1 := [.int r1]) rfl hl.1 rfl rfl (Nat.le_of_ble_eq_true rfl) dX6_charge_1 ⟨(Nat.le_of_ble_eq_true rfl), (Nat.le_of_ble_eq_true rfl)⟩ (fun H locs hI => ?_)
  refine lv_istore_n (lv' := [(3, .int r1), (0, .ref (a 0)), (1, .int p1), (2, .int p2)]) hx hb dX6_charge_4 rfl hl (by decide) rfl (fun ls hl => ?_)
  refine lv_aload_n hx hb dX6_charge_5 rfl (lv_at hl 1 rfl) ?_
  refine lv_iload_n hx hb dX6_charge_6 rfl (lv_at hl 3 rfl) ?_
  refine lv_aload_n hx hb dX6_charge_7 rfl (lv_at hl 1 rfl) ?_
  refine bw_get S hK hI 0 0 rfl rfl (by decide) i_X6 f_X6_7 rfl dX6_charge_8 ?_
  refine lv_iload_n hx hb dX6_charge_11 rfl (lv_at hl 0 rfl) ?_
  refine lv_iconst (v := 2) hx hb dX6_charge_12 rfl ?_
  refine lv_iadd hx hb dX6_charge_13 ?_
  obtain ⟨v14, hv, h⟩ := bw_b1_e h
  refine bw_iald hx hb hK hI 1 hv rfl dX6_charge_14 ?_
  obtain ⟨r15, hc, h⟩ := bw_b1_e h
  refine bw_callP S hK hZ hI (mX6_least l G cy g p2 v14 r15 hc) Y_X6_least V_X6_least l_X6_61 ⟨(Nat.le_of_ble_eq_true rfl), (Nat.le_of_ble_eq_true rfl)⟩ (rest := [.ref (a 0)]) (st1 := [.int r15, .ref (a 0)]) rfl hl.1 rfl rfl (Nat.le_of_ble_eq_true rfl) dX6_charge_15 ⟨(Nat.le_of_ble_eq_true rfl), (Nat.le_of_ble_eq_true rfl)⟩ (fun H locs hI => ?_)
  refine bw_put S hK hI 0 9 (ws' := (bw_mW cy a z rows asd sm buf bm th od om r15 ca bo la pl to rd hh)) tyX6 tyX6_ok nmX6 rfl rfl (by decide) i_X6 f_X6_96 rfl rfl rfl rfl (Nat.le_of_ble_eq_true rfl) rfl dX6_charge_18 (fun H locs hI => ?_)
  refine lv_aload_n hx hb dX6_charge_21 rfl (lv_at hl 1 rfl) ?_
  refine bw_get S hK hI 0 0 rfl rfl (by decide) i_X6 f_X6_7 rfl dX6_charge_22 ?_
  refine lv_iload_n hx hb dX6_charge_25 rfl (lv_at hl 0 rfl) ?_
  refine lv_iconst (v := 2) hx hb dX6_charge_26 rfl ?_
  refine lv_iadd hx hb dX6_charge_27 ?_
  refine lv_dup2_11 hx hb dX6_charge_28 rfl rfl ?_
  obtain ⟨v29, hv, h⟩ := bw_b1_e h
  refine bw_iald hx hb hK hI 1 hv rfl dX6_charge_29 ?_
  refine lv_aload_n hx hb dX6_charge_30 rfl (lv_at hl 1 rfl) ?_
  refine bw_get S hK hI 0 9 rfl rfl (by decide) i_X6 f_X6_96 rfl dX6_charge_31 ?_
  refine lv_isub hx hb dX6_charge_34 ?_
  obtain ⟨z_35, hv, h⟩ := bw_b1_e h
  refine bw_iast hx hb hK hI 1 (ws' := (bw_mW cy a z_35 rows asd sm buf bm th od om r15 ca bo la pl to rd hh)) hv rfl rfl dX6_charge_35 (fun H locs hI => ?_)
  refine lv_aload_n hx hb dX6_charge_36 rfl (lv_at hl 1 rfl) ?_
  refine lv_iload_n hx hb dX6_charge_37 rfl (lv_at hl 2 rfl) ?_
  refine lv_iload_n hx hb dX6_charge_38 rfl (lv_at hl 3 rfl) ?_
  refine lv_aload_n hx hb dX6_charge_39 rfl (lv_at hl 1 rfl) ?_
  refine bw_get S hK hI 0 9 rfl rfl (by decide) i_X6 f_X6_96 rfl dX6_charge_40 ?_
  refine lv_isub hx hb dX6_charge_43 ?_
  obtain ⟨z_44, ca_44, hc, h⟩ := bw_b2_e h
  refine bw_callV S hK hZ hI (mX6_callBack l G cy g a z_35 rows asd sm buf bm th od om r15 ca bo la pl to rd hh p1 (p2 - r15) z_44 ca_44 hc) Y_X6_callBack V_X6_callBack l_X6_99 ⟨(Nat.le_of_ble_eq_true rfl), (Nat.le_of_ble_eq_true rfl)⟩ (q0 := 0) rfl rfl rfl (ws' := (bw_mW cy a z_44 rows asd sm buf bm th od om r15 ca_44 bo la pl to rd hh)) (bw_pS _) (bw_pS' _) rfl rfl hl.1 (rest := []) (st1 := []) rfl rfl (Nat.le_of_ble_eq_true rfl) dX6_charge_44 ⟨(Nat.le_of_ble_eq_true rfl), (Nat.le_of_ble_eq_true rfl)⟩ (fun H locs hI => ?_)
  refine lv_aload_n hx hb dX6_charge_47 rfl (lv_at hl 1 rfl) ?_
  refine lv_iload_n hx hb dX6_charge_48 rfl (lv_at hl 2 rfl) ?_
  refine lv_iload_n hx hb dX6_charge_49 rfl (lv_at hl 3 rfl) ?_
  refine lv_aload_n hx hb dX6_charge_50 rfl (lv_at hl 1 rfl) ?_
  refine bw_get S hK hI 0 9 rfl rfl (by decide) i_X6 f_X6_96 rfl dX6_charge_51 ?_
  refine lv_isub hx hb dX6_charge_54 ?_
  refine lv_aload_n hx hb dX6_charge_55 rfl (lv_at hl 1 rfl) ?_
  refine bw_get S hK hI 0 10 rfl rfl (by decide) i_X6 f_X6_80 rfl dX6_charge_56 ?_
  refine lv_isub hx hb dX6_charge_59 ?_
  obtain ⟨z_60, od_60, om_60, bo_60, la_60, hc, h⟩ := bw_b5_e h
  refine bw_callV S hK hZ hI (mX6_borrow l G cy g a z_44 rows asd sm buf bm th od om r15 ca_44 bo la pl to rd hh p1 ((p2 - r15) - ca_44) z_60 od_60 om_60 bo_60 la_60 hc) Y_X6_borrow V_X6_borrow l_X6_102 ⟨(Nat.le_of_ble_eq_true rfl), (Nat.le_of_ble_eq_true rfl)⟩ (q0 := 0) rfl rfl rfl (ws' := (bw_mW cy a z_60 rows asd sm buf bm th od_60 om_60 r15 ca_44 bo_60 la_60 pl to rd hh)) (bw_pS _) (bw_pS' _) rfl rfl hl.1 (rest := []) (st1 := []) rfl rfl (Nat.le_of_ble_eq_true rfl) dX6_charge_60 ⟨(Nat.le_of_ble_eq_true rfl), (Nat.le_of_ble_eq_true rfl)⟩ (fun H locs hI => ?_)
  refine lv_aload_n hx hb dX6_charge_63 rfl (lv_at hl 1 rfl) ?_
  refine bw_get S hK hI 0 0 rfl rfl (by decide) i_X6 f_X6_7 rfl dX6_charge_64 ?_
  refine lv_iload_n hx hb dX6_charge_67 rfl (lv_at hl 0 rfl) ?_
  refine lv_iconst (v := 3) hx hb dX6_charge_68 rfl ?_
  refine lv_iadd hx hb dX6_charge_69 ?_
  refine lv_dup2_11 hx hb dX6_charge_70 rfl rfl ?_
  obtain ⟨v71, hv, h⟩ := bw_b1_e h
  refine bw_iald hx hb hK hI 1 hv rfl dX6_charge_71 ?_
  refine lv_aload_n hx hb dX6_charge_72 rfl (lv_at hl 1 rfl) ?_
  refine bw_get S hK hI 0 9 rfl rfl (by decide) i_X6 f_X6_96 rfl dX6_charge_73 ?_
  refine lv_aload_n hx hb dX6_charge_76 rfl (lv_at hl 1 rfl) ?_
  refine bw_get S hK hI 0 10 rfl rfl (by decide) i_X6 f_X6_80 rfl dX6_charge_77 ?_
  refine lv_iadd hx hb dX6_charge_80 ?_
  refine lv_aload_n hx hb dX6_charge_81 rfl (lv_at hl 1 rfl) ?_
  refine bw_get S hK hI 0 11 rfl rfl (by decide) i_X6 f_X6_90 rfl dX6_charge_82 ?_
  refine lv_iadd hx hb dX6_charge_85 ?_
  refine lv_iadd hx hb dX6_charge_86 ?_
  obtain ⟨z_87, hv, h⟩ := bw_b1_e h
  refine bw_iast hx hb hK hI 1 (ws' := (bw_mW cy a z_87 rows asd sm buf bm th od_60 om_60 r15 ca_44 bo_60 la_60 pl to rd hh)) hv rfl rfl dX6_charge_87 (fun H locs hI => ?_)
  refine lv_aload_n hx hb dX6_charge_88 rfl (lv_at hl 1 rfl) ?_
  refine bw_get S hK hI 0 0 rfl rfl (by decide) i_X6 f_X6_7 rfl dX6_charge_89 ?_
  refine lv_iload_n hx hb dX6_charge_92 rfl (lv_at hl 0 rfl) ?_
  refine lv_iconst (v := 4) hx hb dX6_charge_93 rfl ?_
  refine lv_iadd hx hb dX6_charge_94 ?_
  refine lv_dup2_11 hx hb dX6_charge_95 rfl rfl ?_
  obtain ⟨v96, hv, h⟩ := bw_b1_e h
  refine bw_iald hx hb hK hI 1 hv rfl dX6_charge_96 ?_
  refine lv_aload_n hx hb dX6_charge_97 rfl (lv_at hl 1 rfl) ?_
  refine bw_get S hK hI 0 12 rfl rfl (by decide) i_X6 f_X6_93 rfl dX6_charge_98 ?_
  refine lv_iadd hx hb dX6_charge_101 ?_
  obtain ⟨z_102, hv, h⟩ := bw_b1_e h
  refine bw_iast hx hb hK hI 1 (ws' := (bw_mW cy a z_102 rows asd sm buf bm th od_60 om_60 r15 ca_44 bo_60 la_60 pl to rd hh)) hv rfl rfl dX6_charge_102 (fun H locs hI => ?_)
  exact bw_vret (d := (z_102, od_60, om_60, r15, ca_44, bo_60, la_60)) (rr := (z', od', om', ow', ca', bo', la')) S hr hlocks h (fun q : (bw_A1 × bw_A1 × Int32 × Int32 × Int32 × Int32 × Int32) => (bw_mW cy a q.1 rows asd sm buf bm th q.2.1 q.2.2.1 q.2.2.2.1 q.2.2.2.2.1 q.2.2.2.2.2.1 q.2.2.2.2.2.2 pl to rd hh)) hI dX6_charge_103 hQ
set_option maxHeartbeats 4000000 in
set_option maxRecDepth 100000 in
theorem mX6_doNow (l : Launch) (G : va_G) (cy : Nat → ClassId) (g : Nat) (a : Nat → Nat) (z : bw_A1) (rows : bw_A1) (asd : bw_A1) (sm : Int32) (buf : bw_A1) (bm : Int32) (th : Int32) (od : bw_A1) (om : Int32) (ow : Int32) (ca : Int32) (bo : Int32) (la : Int32) (pl : Int32) (to : Int32) (rd : bw_A1) (hh : Int64) (p1 : Int32) (p2 : Int32) (z' : bw_A1) (od' : bw_A1) (om' : Int32) (ow' : Int32) (ca' : Int32) (bo' : Int32) (la' : Int32) (h : fX6_doNow z od om ow ca bo la p1 p2 = some (z', od', om', ow', ca', bo', la')) : bw_M l yX6_doNow cX6_doNow 6 none 7 159 G cy g [.ref (a 0), .int p1, .int p2] (bw_mW cy a z rows asd sm buf bm th od om ow ca bo la pl to rd hh) none (bw_mW cy a z' rows asd sm buf bm th od' om' ow' ca' bo' la' pl to rd hh) := by
  refine bw_ofW (by decide +kernel) RX6 rfl (Nat.le_of_ble_eq_true rfl) ?_
  intro p e s m below meth c ls S hr hlocks hK hZ hI hl
  have hx := S.1
  have hb := S.2.1
  have hown := S.2.2.2.1
  have hts := S.2.2.2.2
  generalize va_A _ s.heap.size = A at hI hZ ⊢
  generalize hQ : MQ below _ _ s 0 0 A = Q
  have hl : lv_has ls 6 [(0, .ref (a 0)), (1, .int p1), (2, .int p2)] := hl
  have j114 : ∀ (z : bw_A1) (od : bw_A1) (om : Int32) (ow : Int32) (ca : Int32) (bo : Int32) (la : Int32) (x1 : Int32) (x3 : Int32) (x4 : Int32) (H : Heap) (locs : List Loc) (ls : Array Slot), jX6_doNow_114 z od om ow ca bo la x1 x3 x4 = some (z', od', om', ow', ca', bo', la') → bw_I G A s.heap (bw_mW cy a z rows asd sm buf bm th od om ow ca bo la pl to rd hh) H locs → lv_has ls 6 [(0, .ref (a 0)), (1, .int x1), (3, .int x3), (4, .int x4)] → W p l e (bw_rm 7 159) s m [.ref (a 0), .int p1, .int p2].toArray below meth c H locs 0 0 Q (F0 m 114 ls []) := by
    intro z od om ow ca bo la x1 x3 x4 H locs ls h hI hl
    unfold jX6_doNow_114 at h
    refine lv_aload_n hx hb dX6_doNow_114 rfl (lv_at hl 0 rfl) ?_
    refine bw_get S hK hI 0 0 rfl rfl (by decide) i_X6 f_X6_7 rfl dX6_doNow_115 ?_
    refine lv_iload_n hx hb dX6_doNow_118 rfl (lv_at hl 2 rfl) ?_
    refine lv_bipush (v := 26) hx hb dX6_doNow_119 (by decide) ?_
    refine lv_iadd hx hb dX6_doNow_121 ?_
    refine lv_iconst (v := 4) hx hb dX6_doNow_122 rfl ?_
    refine lv_iload hx hb dX6_doNow_123 (lv_at hl 3 rfl) ?_
    refine lv_imul hx hb dX6_doNow_125 ?_
    refine lv_iadd hx hb dX6_doNow_126 ?_
    refine lv_aload_n hx hb dX6_doNow_127 rfl (lv_at hl 0 rfl) ?_
    refine bw_get S hK hI 0 9 rfl rfl (by decide) i_X6 f_X6_96 rfl dX6_doNow_128 ?_
    obtain ⟨z_131, hv, h⟩ := bw_b1_e h
    refine bw_iast hx hb hK hI 1 (ws' := (bw_mW cy a z_131 rows asd sm buf bm th od om ow ca bo la pl to rd hh)) hv rfl rfl dX6_doNow_131 (fun H locs hI => ?_)
    refine lv_aload_n hx hb dX6_doNow_132 rfl (lv_at hl 0 rfl) ?_
    refine bw_get S hK hI 0 0 rfl rfl (by decide) i_X6 f_X6_7 rfl dX6_doNow_133 ?_
    refine lv_iload_n hx hb dX6_doNow_136 rfl (lv_at hl 2 rfl) ?_
    refine lv_bipush (v := 26) hx hb dX6_doNow_137 (by decide) ?_
    refine lv_iadd hx hb dX6_doNow_139 ?_
    refine lv_iconst (v := 4) hx hb dX6_doNow_140 rfl ?_
    refine lv_iload hx hb dX6_doNow_141 (lv_at hl 3 rfl) ?_
    refine lv_imul hx hb dX6_doNow_143 ?_
    refine lv_iadd hx hb dX6_doNow_144 ?_
    refine lv_iconst (v := 1) hx hb dX6_doNow_145 rfl ?_
    refine lv_iadd hx hb dX6_doNow_146 ?_
    refine lv_aload_n hx hb dX6_doNow_147 rfl (lv_at hl 0 rfl) ?_
    refine bw_get S hK hI 0 10 rfl rfl (by decide) i_X6 f_X6_80 rfl dX6_doNow_148 ?_
    obtain ⟨z_151, hv, h⟩ := bw_b1_e h
    refine bw_iast hx hb hK hI 1 (ws' := (bw_mW cy a z_151 rows asd sm buf bm th od om ow ca bo la pl to rd hh)) hv rfl rfl dX6_doNow_151 (fun H locs hI => ?_)
    refine lv_aload_n hx hb dX6_doNow_152 rfl (lv_at hl 0 rfl) ?_
    refine bw_get S hK hI 0 0 rfl rfl (by decide) i_X6 f_X6_7 rfl dX6_doNow_153 ?_
    refine lv_iload_n hx hb dX6_doNow_156 rfl (lv_at hl 2 rfl) ?_
    refine lv_bipush (v := 26) hx hb dX6_doNow_157 (by decide) ?_
    refine lv_iadd hx hb dX6_doNow_159 ?_
    refine lv_iconst (v := 4) hx hb dX6_doNow_160 rfl ?_
    refine lv_iload hx hb dX6_doNow_161 (lv_at hl 3 rfl) ?_
    refine lv_imul hx hb dX6_doNow_163 ?_
    refine lv_iadd hx hb dX6_doNow_164 ?_
    refine lv_iconst (v := 2) hx hb dX6_doNow_165 rfl ?_
    refine lv_iadd hx hb dX6_doNow_166 ?_
    refine lv_aload_n hx hb dX6_doNow_167 rfl (lv_at hl 0 rfl) ?_
    refine bw_get S hK hI 0 11 rfl rfl (by decide) i_X6 f_X6_90 rfl dX6_doNow_168 ?_
    obtain ⟨z_171, hv, h⟩ := bw_b1_e h
    refine bw_iast hx hb hK hI 1 (ws' := (bw_mW cy a z_171 rows asd sm buf bm th od om ow ca bo la pl to rd hh)) hv rfl rfl dX6_doNow_171 (fun H locs hI => ?_)
    refine lv_aload_n hx hb dX6_doNow_172 rfl (lv_at hl 0 rfl) ?_
    refine bw_get S hK hI 0 0 rfl rfl (by decide) i_X6 f_X6_7 rfl dX6_doNow_173 ?_
    refine lv_iload_n hx hb dX6_doNow_176 rfl (lv_at hl 2 rfl) ?_
    refine lv_bipush (v := 26) hx hb dX6_doNow_177 (by decide) ?_
    refine lv_iadd hx hb dX6_doNow_179 ?_
    refine lv_iconst (v := 4) hx hb dX6_doNow_180 rfl ?_
    refine lv_iload hx hb dX6_doNow_181 (lv_at hl 3 rfl) ?_
    refine lv_imul hx hb dX6_doNow_183 ?_
    refine lv_iadd hx hb dX6_doNow_184 ?_
    refine lv_iconst (v := 3) hx hb dX6_doNow_185 rfl ?_
    refine lv_iadd hx hb dX6_doNow_186 ?_
    refine lv_aload_n hx hb dX6_doNow_187 rfl (lv_at hl 0 rfl) ?_
    refine bw_get S hK hI 0 12 rfl rfl (by decide) i_X6 f_X6_93 rfl dX6_doNow_188 ?_
    obtain ⟨z_191, hv, h⟩ := bw_b1_e h
    refine bw_iast hx hb hK hI 1 (ws' := (bw_mW cy a z_191 rows asd sm buf bm th od om ow ca bo la pl to rd hh)) hv rfl rfl dX6_doNow_191 (fun H locs hI => ?_)
    refine lv_aload_n hx hb dX6_doNow_192 rfl (lv_at hl 0 rfl) ?_
    refine bw_get S hK hI 0 0 rfl rfl (by decide) i_X6 f_X6_7 rfl dX6_doNow_193 ?_
    refine lv_iload_n hx hb dX6_doNow_196 rfl (lv_at hl 2 rfl) ?_
    refine lv_bipush (v := 6) hx hb dX6_doNow_197 (by decide) ?_
    refine lv_iadd hx hb dX6_doNow_199 ?_
    refine lv_dup2_11 hx hb dX6_doNow_200 rfl rfl ?_
    obtain ⟨v201, hv, h⟩ := bw_b1_e h
    refine bw_iald hx hb hK hI 1 hv rfl dX6_doNow_201 ?_
    refine lv_iconst (v := 1) hx hb dX6_doNow_202 rfl ?_
    refine lv_iadd hx hb dX6_doNow_203 ?_
    obtain ⟨z_204, hv, h⟩ := bw_b1_e h
    refine bw_iast hx hb hK hI 1 (ws' := (bw_mW cy a z_204 rows asd sm buf bm th od om ow ca bo la pl to rd hh)) hv rfl rfl dX6_doNow_204 (fun H locs hI => ?_)
    refine lv_aload_n hx hb dX6_doNow_205 rfl (lv_at hl 0 rfl) ?_
    refine lv_iload_n hx hb dX6_doNow_206 rfl (lv_at hl 1 rfl) ?_
    obtain ⟨r207, hc, h⟩ := bw_b1_e h
    refine bw_callV S hK hZ hI (mX6_hasNext l G cy g a z_204 rows asd sm buf bm th od om ow ca bo la pl to rd hh x1 r207 hc) Y_X6_hasNext V_X6_hasNext l_X6_47 ⟨(Nat.le_of_ble_eq_true rfl), (Nat.le_of_ble_eq_true rfl)⟩ (q0 := 0) rfl rfl rfl (ws' := (bw_mW cy a z_204 rows asd sm buf bm th od om ow ca bo la pl to rd hh)) (bw_pS _) (bw_pS' _) rfl rfl hl.1 (rest := []) (st1 := [.int r207]) rfl rfl (Nat.le_of_ble_eq_true rfl) dX6_doNow_207 ⟨(Nat.le_of_ble_eq_true rfl), (Nat.le_of_ble_eq_true rfl)⟩ (fun H locs hI => ?_)
    refine lv_if_eq (tgt := 236) hx hb dX6_doNow_210 (by decide) (fun c_210 => ?_) (fun c_210 => ?_)
    · rw [if_pos c_210] at h
      exact bw_vret (d := (z_204, od, om, ow, ca, bo, la)) (rr := (z', od', om', ow', ca', bo', la')) S hr hlocks h (fun q : (bw_A1 × bw_A1 × Int32 × Int32 × Int32 × Int32 × Int32) => (bw_mW cy a q.1 rows asd sm buf bm th q.2.1 q.2.2.1 q.2.2.2.1 q.2.2.2.2.1 q.2.2.2.2.2.1 q.2.2.2.2.2.2 pl to rd hh)) hI dX6_doNow_236 hQ
    rw [if_neg c_210] at h
    refine lv_aload_n hx hb dX6_doNow_213 rfl (lv_at hl 0 rfl) ?_
    refine lv_iload_n hx hb dX6_doNow_214 rfl (lv_at hl 1 rfl) ?_
    refine lv_aload_n hx hb dX6_doNow_215 rfl (lv_at hl 0 rfl) ?_
    refine bw_get S hK hI 0 0 rfl rfl (by decide) i_X6 f_X6_7 rfl dX6_doNow_216 ?_
    refine lv_iload_n hx hb dX6_doNow_219 rfl (lv_at hl 2 rfl) ?_
    refine lv_iconst (v := 2) hx hb dX6_doNow_220 rfl ?_
    refine lv_iadd hx hb dX6_doNow_221 ?_
    obtain ⟨v222, hv, h⟩ := bw_b1_e h
    refine bw_iald hx hb hK hI 1 hv rfl dX6_doNow_222 ?_
    refine lv_aload_n hx hb dX6_doNow_223 rfl (lv_at hl 0 rfl) ?_
    refine bw_get S hK hI 0 0 rfl rfl (by decide) i_X6 f_X6_7 rfl dX6_doNow_224 ?_
    refine lv_iconst (v := 5) hx hb dX6_doNow_227 rfl ?_
    obtain ⟨v228, hv, h⟩ := bw_b1_e h
    refine bw_iald hx hb hK hI 1 hv rfl dX6_doNow_228 ?_
    refine lv_imul hx hb dX6_doNow_229 ?_
    refine lv_bipush (v := 100) hx hb dX6_doNow_230 (by decide) ?_
    refine lv_idiv hx hb dX6_doNow_232 (by decide) ?_
    obtain ⟨z_233, hc, h⟩ := bw_b1_e h
    refine bw_callV S hK hZ hI (mX6_payAll l G cy g a z_204 rows asd sm buf bm th od om ow ca bo la pl to rd hh x1 ((v222 * v228) / 100) z_233 hc) Y_X6_payAll V_X6_payAll l_X6_108 ⟨(Nat.le_of_ble_eq_true rfl), (Nat.le_of_ble_eq_true rfl)⟩ (q0 := 0) rfl rfl rfl (ws' := (bw_mW cy a z_233 rows asd sm buf bm th od om ow ca bo la pl to rd hh)) (bw_pS _) (bw_pS' _) rfl rfl hl.1 (rest := []) (st1 := []) rfl rfl (Nat.le_of_ble_eq_true rfl) dX6_doNow_233 ⟨(Nat.le_of_ble_eq_true rfl), (Nat.le_of_ble_eq_true rfl)⟩ (fun H locs hI => ?_)
    exact bw_vret (d := (z_233, od, om, ow, ca, bo, la)) (rr := (z', od', om', ow', ca', bo', la')) S hr hlocks h (fun q : (bw_A1 × bw_A1 × Int32 × Int32 × Int32 × Int32 × Int32) => (bw_mW cy a q.1 rows asd sm buf bm th q.2.1 q.2.2.1 q.2.2.2.1 q.2.2.2.2.1 q.2.2.2.2.2.1 q.2.2.2.2.2.2 pl to rd hh)) hI dX6_doNow_236 hQ
  unfold fX6_doNow at h
  refine lv_iload_n hx hb dX6_doNow_0 rfl (lv_at hl 1 rfl) ?_
  obtain ⟨r1, hc, h⟩ := bw_b1_e h
  refine bw_callP S hK hZ hI (mX6_at l G cy g p1 r1 hc) Y_X6_at V_X6_at l_X6_39 ⟨(Nat.le_of_ble_eq_true rfl), (Nat.le_of_ble_eq_true rfl)⟩ (rest := []) (st1 := [.int r1]) rfl hl.1 rfl rfl (Nat.le_of_ble_eq_true rfl) dX6_doNow_1 ⟨(Nat.le_of_ble_eq_true rfl), (Nat.le_of_ble_eq_true rfl)⟩ (fun H locs hI => ?_)
  refine lv_istore_n (lv' := [(3, .int r1), (0, .ref (a 0)), (1, .int p1), (2, .int p2)]) hx hb dX6_doNow_4 rfl hl (by decide) rfl (fun ls hl => ?_)
  refine lv_aload_n hx hb dX6_doNow_5 rfl (lv_at hl 1 rfl) ?_
  refine bw_get S hK hI 0 0 rfl rfl (by decide) i_X6 f_X6_7 rfl dX6_doNow_6 ?_
  refine lv_iload_n hx hb dX6_doNow_9 rfl (lv_at hl 0 rfl) ?_
  refine lv_bipush (v := 6) hx hb dX6_doNow_10 (by decide) ?_
  refine lv_iadd hx hb dX6_doNow_12 ?_
  obtain ⟨v13, hv, h⟩ := bw_b1_e h
  refine bw_iald hx hb hK hI 1 hv rfl dX6_doNow_13 ?_
  refine lv_istore (lv' := [(4, .int v13), (3, .int r1), (0, .ref (a 0)), (1, .int p1), (2, .int p2)]) hx hb dX6_doNow_14 hl (by decide) rfl (fun ls hl => ?_)
  refine lv_iload_n hx hb dX6_doNow_16 rfl (lv_at hl 4 rfl) ?_
  refine lv_aload_n hx hb dX6_doNow_17 rfl (lv_at hl 2 rfl) ?_
  refine bw_get S hK hI 0 0 rfl rfl (by decide) i_X6 f_X6_7 rfl dX6_doNow_18 ?_
  refine lv_iload_n hx hb dX6_doNow_21 rfl (lv_at hl 1 rfl) ?_
  refine lv_bipush (v := 10) hx hb dX6_doNow_22 (by decide) ?_
  refine lv_iadd hx hb dX6_doNow_24 ?_
  refine lv_iload hx hb dX6_doNow_25 (lv_at hl 0 rfl) ?_
  refine lv_iadd hx hb dX6_doNow_27 ?_
  obtain ⟨v28, hv, h⟩ := bw_b1_e h
  refine bw_iald hx hb hK hI 1 hv rfl dX6_doNow_28 ?_
  refine lv_isub hx hb dX6_doNow_29 ?_
  refine lv_topi (fun x5_30 e_30 => ?_)
  have h := bw_let_e h e_30
  clear e_30
  refine lv_istore (lv' := [(5, .int x5_30), (4, .int v13), (3, .int r1), (0, .ref (a 0)), (1, .int p1), (2, .int p2)]) hx hb dX6_doNow_30 hl (by decide) rfl (fun ls hl => ?_)
  refine lv_aload_n hx hb dX6_doNow_32 rfl (lv_at hl 3 rfl) ?_
  refine lv_iconst (v := 0) hx hb dX6_doNow_33 rfl ?_
  refine bw_put S hK hI 0 9 (ws' := (bw_mW cy a z rows asd sm buf bm th od om 0 ca bo la pl to rd hh)) tyX6 tyX6_ok nmX6 rfl rfl (by decide) i_X6 f_X6_96 rfl rfl rfl rfl (Nat.le_of_ble_eq_true rfl) rfl dX6_doNow_34 (fun H locs hI => ?_)
  refine lv_aload_n hx hb dX6_doNow_37 rfl (lv_at hl 3 rfl) ?_
  refine lv_iconst (v := 0) hx hb dX6_doNow_38 rfl ?_
  refine bw_put S hK hI 0 10 (ws' := (bw_mW cy a z rows asd sm buf bm th od om 0 0 bo la pl to rd hh)) tyX6 tyX6_ok nmX6 rfl rfl (by decide) i_X6 f_X6_80 rfl rfl rfl rfl (Nat.le_of_ble_eq_true rfl) rfl dX6_doNow_39 (fun H locs hI => ?_)
  refine lv_aload_n hx hb dX6_doNow_42 rfl (lv_at hl 3 rfl) ?_
  refine lv_iconst (v := 0) hx hb dX6_doNow_43 rfl ?_
  refine bw_put S hK hI 0 11 (ws' := (bw_mW cy a z rows asd sm buf bm th od om 0 0 0 la pl to rd hh)) tyX6 tyX6_ok nmX6 rfl rfl (by decide) i_X6 f_X6_90 rfl rfl rfl rfl (Nat.le_of_ble_eq_true rfl) rfl dX6_doNow_44 (fun H locs hI => ?_)
  refine lv_aload_n hx hb dX6_doNow_47 rfl (lv_at hl 3 rfl) ?_
  refine lv_iconst (v := 0) hx hb dX6_doNow_48 rfl ?_
  refine bw_put S hK hI 0 12 (ws' := (bw_mW cy a z rows asd sm buf bm th od om 0 0 0 0 pl to rd hh)) tyX6 tyX6_ok nmX6 rfl rfl (by decide) i_X6 f_X6_93 rfl rfl rfl rfl (Nat.le_of_ble_eq_true rfl) rfl dX6_doNow_49 (fun H locs hI => ?_)
  refine lv_aload_n hx hb dX6_doNow_52 rfl (lv_at hl 3 rfl) ?_
  refine bw_get S hK hI 0 0 rfl rfl (by decide) i_X6 f_X6_7 rfl dX6_doNow_53 ?_
  refine lv_iload_n hx hb dX6_doNow_56 rfl (lv_at hl 2 rfl) ?_
  refine lv_bipush (v := 18) hx hb dX6_doNow_57 (by decide) ?_
  refine lv_iadd hx hb dX6_doNow_59 ?_
  refine lv_iload hx hb dX6_doNow_60 (lv_at hl 1 rfl) ?_
  refine lv_iadd hx hb dX6_doNow_62 ?_
  refine lv_iload_n hx hb dX6_doNow_63 rfl (lv_at hl 5 rfl) ?_
  obtain ⟨z_64, hv, h⟩ := bw_b1_e h
  refine bw_iast hx hb hK hI 1 (ws' := (bw_mW cy a z_64 rows asd sm buf bm th od om 0 0 0 0 pl to rd hh)) hv rfl rfl dX6_doNow_64 (fun H locs hI => ?_)
  refine lv_iload hx hb dX6_doNow_65 (lv_at hl 0 rfl) ?_
  refine lv_if_le (tgt := 80) hx hb dX6_doNow_67 (by decide) (fun c_67 => ?_) (fun c_67 => ?_)
  · rw [if_pos c_67] at h
    refine lv_aload_n hx hb dX6_doNow_80 rfl (lv_at hl 3 rfl) ?_
    refine bw_get S hK hI 0 0 rfl rfl (by decide) i_X6 f_X6_7 rfl dX6_doNow_81 ?_
    refine lv_iload_n hx hb dX6_doNow_84 rfl (lv_at hl 2 rfl) ?_
    refine lv_iconst (v := 2) hx hb dX6_doNow_85 rfl ?_
    refine lv_iadd hx hb dX6_doNow_86 ?_
    refine lv_dup2_11 hx hb dX6_doNow_87 rfl rfl ?_
    obtain ⟨v88, hv, h⟩ := bw_b1_e h
    refine bw_iald hx hb hK hI 1 hv rfl dX6_doNow_88 ?_
    refine lv_iload hx hb dX6_doNow_89 (lv_at hl 0 rfl) ?_
    refine lv_isub hx hb dX6_doNow_91 ?_
    obtain ⟨z_92, hv, h⟩ := bw_b1_e h
    refine bw_iast hx hb hK hI 1 (ws' := (bw_mW cy a z_92 rows asd sm buf bm th od om 0 0 0 0 pl to rd hh)) hv rfl rfl dX6_doNow_92 (fun H locs hI => ?_)
    refine lv_aload_n hx hb dX6_doNow_93 rfl (lv_at hl 3 rfl) ?_
    refine bw_get S hK hI 0 0 rfl rfl (by decide) i_X6 f_X6_7 rfl dX6_doNow_94 ?_
    refine lv_iload_n hx hb dX6_doNow_97 rfl (lv_at hl 2 rfl) ?_
    refine lv_iconst (v := 3) hx hb dX6_doNow_98 rfl ?_
    refine lv_iadd hx hb dX6_doNow_99 ?_
    refine lv_dup2_11 hx hb dX6_doNow_100 rfl rfl ?_
    obtain ⟨v101, hv, h⟩ := bw_b1_e h
    refine bw_iald hx hb hK hI 1 hv rfl dX6_doNow_101 ?_
    refine lv_iload hx hb dX6_doNow_102 (lv_at hl 0 rfl) ?_
    refine lv_iadd hx hb dX6_doNow_104 ?_
    obtain ⟨z_105, hv, h⟩ := bw_b1_e h
    refine bw_iast hx hb hK hI 1 (ws' := (bw_mW cy a z_105 rows asd sm buf bm th od om 0 0 0 0 pl to rd hh)) hv rfl rfl dX6_doNow_105 (fun H locs hI => ?_)
    refine lv_aload_n hx hb dX6_doNow_106 rfl (lv_at hl 3 rfl) ?_
    refine lv_iload_n hx hb dX6_doNow_107 rfl (lv_at hl 4 rfl) ?_
    refine lv_iload hx hb dX6_doNow_108 (lv_at hl 0 rfl) ?_
    refine lv_ineg hx hb dX6_doNow_110 ?_
    obtain ⟨z_111, hc, h⟩ := bw_b1_e h
    refine bw_callV S hK hZ hI (mX6_payAll l G cy g a z_105 rows asd sm buf bm th od om 0 0 0 0 pl to rd hh p1 (-x5_30) z_111 hc) Y_X6_payAll V_X6_payAll l_X6_108 ⟨(Nat.le_of_ble_eq_true rfl), (Nat.le_of_ble_eq_true rfl)⟩ (q0 := 0) rfl rfl rfl (ws' := (bw_mW cy a z_111 rows asd sm buf bm th od om 0 0 0 0 pl to rd hh)) (bw_pS _) (bw_pS' _) rfl rfl hl.1 (rest := []) (st1 := []) rfl rfl (Nat.le_of_ble_eq_true rfl) dX6_doNow_111 ⟨(Nat.le_of_ble_eq_true rfl), (Nat.le_of_ble_eq_true rfl)⟩ (fun H locs hI => ?_)
    exact j114 z_111 od om 0 0 0 0 p1 r1 v13 _ _ _ h hI (lv_sub hl [3,4,2,1] rfl)
  rw [if_neg c_67] at h
  refine lv_aload_n hx hb dX6_doNow_70 rfl (lv_at hl 3 rfl) ?_
  refine lv_iload_n hx hb dX6_doNow_71 rfl (lv_at hl 4 rfl) ?_
  refine lv_iload hx hb dX6_doNow_72 (lv_at hl 0 rfl) ?_
  obtain ⟨z_74, od_74, om_74, ow_74, ca_74, bo_74, la_74, hc, h⟩ := bw_b7_e h
  refine bw_callV S hK hZ hI (mX6_charge l G cy g a z_64 rows asd sm buf bm th od om 0 0 0 0 pl to rd hh p1 x5_30 z_74 od_74 om_74 ow_74 ca_74 bo_74 la_74 hc) Y_X6_charge V_X6_charge l_X6_105 ⟨(Nat.le_of_ble_eq_true rfl), (Nat.le_of_ble_eq_true rfl)⟩ (q0 := 0) rfl rfl rfl (ws' := (bw_mW cy a z_74 rows asd sm buf bm th od_74 om_74 ow_74 ca_74 bo_74 la_74 pl to rd hh)) (bw_pS _) (bw_pS' _) rfl rfl hl.1 (rest := []) (st1 := []) rfl rfl (Nat.le_of_ble_eq_true rfl) dX6_doNow_74 ⟨(Nat.le_of_ble_eq_true rfl), (Nat.le_of_ble_eq_true rfl)⟩ (fun H locs hI => ?_)
  refine lv_goto (tgt := 114) hx hb dX6_doNow_77 (by decide) ?_
  exact j114 z_74 od_74 om_74 ow_74 ca_74 bo_74 la_74 p1 r1 v13 _ _ _ h hI (lv_sub hl [3,4,2,1] rfl)
set_option maxHeartbeats 4000000 in
set_option maxRecDepth 100000 in
theorem mX6_openNow (l : Launch) (G : va_G) (cy : Nat → ClassId) (g : Nat) (a : Nat → Nat) (z : bw_A1) (rows : bw_A1) (asd : bw_A1) (sm : Int32) (buf : bw_A1) (bm : Int32) (th : Int32) (od : bw_A1) (om : Int32) (ow : Int32) (ca : Int32) (bo : Int32) (la : Int32) (pl : Int32) (to : Int32) (rd : bw_A1) (hh : Int64) (p1 : Int32) (p2 : Int32) (z' : bw_A1) (h : fX6_openNow z p1 p2 = some z') : bw_M l yX6_openNow cX6_openNow 5 none 1 20 G cy g [.ref (a 0), .int p1, .int p2] (bw_mW cy a z rows asd sm buf bm th od om ow ca bo la pl to rd hh) none (bw_mW cy a z' rows asd sm buf bm th od om ow ca bo la pl to rd hh) := by
  refine bw_ofW (by decide +kernel) RX6 rfl (Nat.le_of_ble_eq_true rfl) ?_
  intro p e s m below meth c ls S hr hlocks hK hZ hI hl
  have hx := S.1
  have hb := S.2.1
  have hown := S.2.2.2.1
  have hts := S.2.2.2.2
  generalize va_A _ s.heap.size = A at hI hZ ⊢
  generalize hQ : MQ below _ _ s 0 0 A = Q
  have hl : lv_has ls 5 [(0, .ref (a 0)), (1, .int p1), (2, .int p2)] := hl
  have l13 : ∀ (x1 : Int32) (x2 : Int32) (x3 : Int32) (n : Nat) (H : Heap) (locs : List Loc) (ls : Array Slot) (z : bw_A1) (x4 : Int32), lX6_openNow_13 x1 x2 x3 n z x4 = some z' → bw_I G A s.heap (bw_mW cy a z rows asd sm buf bm th od om ow ca bo la pl to rd hh) H locs → lv_has ls 5 [(0, .ref (a 0)), (1, .int x1), (2, .int x2), (3, .int x3), (4, .int x4)] → W p l e (bw_rm 1 20) s m [.ref (a 0), .int p1, .int p2].toArray below meth c H locs 0 0 Q (F0 m 13 ls []) := by
    intro x1 x2 x3 n
    induction n with
    | zero => intro H locs ls z x4 h; exact bw_none h
    | succ n ih =>
      intro H locs ls z x4 h hI hl
      have h : bX6_openNow_13  (lX6_openNow_13 x1 x2 x3 n) x1 x2 x3 z x4 = some z' := h
      unfold bX6_openNow_13 at h
      refine lv_iload hx hb dX6_openNow_13 (lv_at hl 4 rfl) ?_
      refine lv_bipush (v := 58) hx hb dX6_openNow_15 (by decide) ?_
      refine lv_icmp_ge (tgt := 36) hx hb dX6_openNow_17 (by decide) (fun c_17 => ?_) (fun c_17 => ?_)
      · rw [if_pos c_17] at h
        refine lv_aload_n hx hb dX6_openNow_36 rfl (lv_at hl 0 rfl) ?_
        refine bw_get S hK hI 0 0 rfl rfl (by decide) i_X6 f_X6_7 rfl dX6_openNow_37 ?_
        refine lv_iload_n hx hb dX6_openNow_40 rfl (lv_at hl 3 rfl) ?_
        refine lv_iload_n hx hb dX6_openNow_41 rfl (lv_at hl 1 rfl) ?_
        obtain ⟨z_42, hv, h⟩ := bw_b1_e h
        refine bw_iast hx hb hK hI 1 (ws' := (bw_mW cy a z_42 rows asd sm buf bm th od om ow ca bo la pl to rd hh)) hv rfl rfl dX6_openNow_42 (fun H locs hI => ?_)
        refine lv_aload_n hx hb dX6_openNow_43 rfl (lv_at hl 0 rfl) ?_
        refine bw_get S hK hI 0 0 rfl rfl (by decide) i_X6 f_X6_7 rfl dX6_openNow_44 ?_
        refine lv_iload_n hx hb dX6_openNow_47 rfl (lv_at hl 3 rfl) ?_
        refine lv_iconst (v := 1) hx hb dX6_openNow_48 rfl ?_
        refine lv_iadd hx hb dX6_openNow_49 ?_
        refine lv_iload_n hx hb dX6_openNow_50 rfl (lv_at hl 2 rfl) ?_
        obtain ⟨z_51, hv, h⟩ := bw_b1_e h
        refine bw_iast hx hb hK hI 1 (ws' := (bw_mW cy a z_51 rows asd sm buf bm th od om ow ca bo la pl to rd hh)) hv rfl rfl dX6_openNow_51 (fun H locs hI => ?_)
        refine lv_aload_n hx hb dX6_openNow_52 rfl (lv_at hl 0 rfl) ?_
        refine bw_get S hK hI 0 0 rfl rfl (by decide) i_X6 f_X6_7 rfl dX6_openNow_53 ?_
        refine lv_iload_n hx hb dX6_openNow_56 rfl (lv_at hl 3 rfl) ?_
        refine lv_iconst (v := 2) hx hb dX6_openNow_57 rfl ?_
        refine lv_iadd hx hb dX6_openNow_58 ?_
        refine lv_iload_n hx hb dX6_openNow_59 rfl (lv_at hl 2 rfl) ?_
        obtain ⟨z_60, hv, h⟩ := bw_b1_e h
        refine bw_iast hx hb hK hI 1 (ws' := (bw_mW cy a z_60 rows asd sm buf bm th od om ow ca bo la pl to rd hh)) hv rfl rfl dX6_openNow_60 (fun H locs hI => ?_)
        refine lv_aload_n hx hb dX6_openNow_61 rfl (lv_at hl 0 rfl) ?_
        refine bw_get S hK hI 0 0 rfl rfl (by decide) i_X6 f_X6_7 rfl dX6_openNow_62 ?_
        refine lv_iload_n hx hb dX6_openNow_65 rfl (lv_at hl 3 rfl) ?_
        refine lv_bipush (v := 7) hx hb dX6_openNow_66 (by decide) ?_
        refine lv_iadd hx hb dX6_openNow_68 ?_
        refine lv_iconst (v := 1) hx hb dX6_openNow_69 rfl ?_
        obtain ⟨z_70, hv, h⟩ := bw_b1_e h
        refine bw_iast hx hb hK hI 1 (ws' := (bw_mW cy a z_70 rows asd sm buf bm th od om ow ca bo la pl to rd hh)) hv rfl rfl dX6_openNow_70 (fun H locs hI => ?_)
        refine lv_aload_n hx hb dX6_openNow_71 rfl (lv_at hl 0 rfl) ?_
        refine bw_get S hK hI 0 0 rfl rfl (by decide) i_X6 f_X6_7 rfl dX6_openNow_72 ?_
        refine lv_iconst (v := 0) hx hb dX6_openNow_75 rfl ?_
        refine lv_dup2_11 hx hb dX6_openNow_76 rfl rfl ?_
        obtain ⟨v77, hv, h⟩ := bw_b1_e h
        refine bw_iald hx hb hK hI 1 hv rfl dX6_openNow_77 ?_
        refine lv_iconst (v := 1) hx hb dX6_openNow_78 rfl ?_
        refine lv_iadd hx hb dX6_openNow_79 ?_
        obtain ⟨z_80, hv, h⟩ := bw_b1_e h
        refine bw_iast hx hb hK hI 1 (ws' := (bw_mW cy a z_80 rows asd sm buf bm th od om ow ca bo la pl to rd hh)) hv rfl rfl dX6_openNow_80 (fun H locs hI => ?_)
        exact bw_vret (d := z_80) (rr := z') S hr hlocks h (fun q : bw_A1 => (bw_mW cy a q rows asd sm buf bm th od om ow ca bo la pl to rd hh)) hI dX6_openNow_81 hQ
      rw [if_neg c_17] at h
      refine lv_aload_n hx hb dX6_openNow_20 rfl (lv_at hl 0 rfl) ?_
      refine bw_get S hK hI 0 0 rfl rfl (by decide) i_X6 f_X6_7 rfl dX6_openNow_21 ?_
      refine lv_iload_n hx hb dX6_openNow_24 rfl (lv_at hl 3 rfl) ?_
      refine lv_iload hx hb dX6_openNow_25 (lv_at hl 4 rfl) ?_
      refine lv_iadd hx hb dX6_openNow_27 ?_
      refine lv_iconst (v := 0) hx hb dX6_openNow_28 rfl ?_
      obtain ⟨z_29, hv, h⟩ := bw_b1_e h
      refine bw_iast hx hb hK hI 1 (ws' := (bw_mW cy a z_29 rows asd sm buf bm th od om ow ca bo la pl to rd hh)) hv rfl rfl dX6_openNow_29 (fun H locs hI => ?_)
      obtain ⟨x4_30, e_30⟩ : ∃ y : Int32, y = x4 + 1 := ⟨_, rfl⟩
      have h := bw_let_e h e_30
      refine lv_iinc (v := x4_30) (lv' := [(4, .int x4_30), (0, .ref (a 0)), (1, .int x1), (2, .int x2), (3, .int x3)]) hx hb dX6_openNow_30 hl (k := 4) rfl (by rw [e_30]; rfl) (by decide) rfl (fun ls hl => ?_)
      clear e_30
      refine lv_goto (tgt := 13) hx hb dX6_openNow_33 (by decide) ?_
      exact ih _ _ _ z_29 x4_30 h hI (lv_sub hl [1,2,3,4,0] rfl)
  unfold fX6_openNow at h
  refine lv_aload_n hx hb dX6_openNow_0 rfl (lv_at hl 0 rfl) ?_
  refine bw_get S hK hI 0 0 rfl rfl (by decide) i_X6 f_X6_7 rfl dX6_openNow_1 ?_
  refine lv_iconst (v := 0) hx hb dX6_openNow_4 rfl ?_
  obtain ⟨v5, hv, h⟩ := bw_b1_e h
  refine bw_iald hx hb hK hI 1 hv rfl dX6_openNow_5 ?_
  obtain ⟨r6, hc, h⟩ := bw_b1_e h
  refine bw_callP S hK hZ hI (mX6_at l G cy g v5 r6 hc) Y_X6_at V_X6_at l_X6_39 ⟨(Nat.le_of_ble_eq_true rfl), (Nat.le_of_ble_eq_true rfl)⟩ (rest := []) (st1 := [.int r6]) rfl hl.1 rfl rfl (Nat.le_of_ble_eq_true rfl) dX6_openNow_6 ⟨(Nat.le_of_ble_eq_true rfl), (Nat.le_of_ble_eq_true rfl)⟩ (fun H locs hI => ?_)
  refine lv_istore_n (lv' := [(3, .int r6), (0, .ref (a 0)), (1, .int p1), (2, .int p2)]) hx hb dX6_openNow_9 rfl hl (by decide) rfl (fun ls hl => ?_)
  refine lv_iconst (v := 0) hx hb dX6_openNow_10 rfl ?_
  refine lv_istore (lv' := [(4, .int 0), (3, .int r6), (0, .ref (a 0)), (1, .int p1), (2, .int p2)]) hx hb dX6_openNow_11 hl (by decide) rfl (fun ls hl => ?_)
  exact l13 p1 p2 r6 bw_fu _ _ _ z 0 h hI (lv_sub hl [2,3,4,1,0] rfl)
