set_option maxHeartbeats 4000000 in
set_option maxRecDepth 100000 in
theorem mX6_payAll (l : Launch) (G : va_G) (cy : Nat → ClassId) (g : Nat) (a : Nat → Nat) (z : bw_A1) (rows : bw_A1) (asd : bw_A1) (sm : Int32) (buf : bw_A1) (bm : Int32) (th : Int32) (od : bw_A1) (om : Int32) (ow : Int32) (ca : Int32) (bo : Int32) (la : Int32) (pl : Int32) (to : Int32) (rd : bw_A1) (hh : Int64) (p1 : Int32) (p2 : Int32) (z' : bw_A1) (h : fX6_payAll z p1 p2 = some z') : bw_M l yX6_payAll cX6_payAll 7 none 3 64 G cy g [.ref (a 0), .int p1, .int p2] (bw_mW cy a z rows asd sm buf bm th od om ow ca bo la pl to rd hh) none (bw_mW cy a z' rows asd sm buf bm th od om ow ca bo la pl to rd hh) := by
  refine bw_ofW (by decide +kernel) RX6 rfl (Nat.le_of_ble_eq_true rfl) ?_
  intro p e s m below meth c ls S hr hlocks hK hZ hI hl
  have hx := S.1
  have hb := S.2.1
  have hown := S.2.2.2.1
  have hts := S.2.2.2.2
  generalize va_A _ s.heap.size = A at hI hZ ⊢
  generalize hQ : MQ below _ _ s 0 0 A = Q
  have hl : lv_has ls 7 [(0, .ref (a 0)), (1, .int p1), (2, .int p2)] := hl
  have j158 : ∀ (z : bw_A1) (x1 : Int32) (x3 : Int32) (s0 : Int32) (s1 : Int32) (k19 : bw_A1 → Int32 → Int32 → Option bw_A1) (hk19 : ∀ (H : Heap) (locs : List Loc) (ls : Array Slot) (z_ : bw_A1) (x3_ : Int32) (x4_ : Int32), k19 z_ x3_ x4_ = some z' → bw_I G A s.heap (bw_mW cy a z_ rows asd sm buf bm th od om ow ca bo la pl to rd hh) H locs → lv_has ls 7 [(0, .ref (a 0)), (1, .int x1), (3, .int x3_), (4, .int x4_)] → W p l e (bw_rm 3 64) s m [.ref (a 0), .int p1, .int p2].toArray below meth c H locs 0 0 Q (F0 m 19 ls [])) (H : Heap) (locs : List Loc) (ls : Array Slot), jX6_payAll_158 k19 z x1 x3 s0 s1 = some z' → bw_I G A s.heap (bw_mW cy a z rows asd sm buf bm th od om ow ca bo la pl to rd hh) H locs → lv_has ls 7 [(0, .ref (a 0)), (1, .int x1), (3, .int x3)] → W p l e (bw_rm 3 64) s m [.ref (a 0), .int p1, .int p2].toArray below meth c H locs 0 0 Q (F0 m 158 ls [.int s0, .int s1]) := by
    intro z x1 x3 s0 s1 k19 hk19 H locs ls h hI hl
    unfold jX6_payAll_158 at h
    refine lv_iadd hx hb dX6_payAll_158 ?_
    refine lv_topi (fun x4_159 e_159 => ?_)
    have h := bw_let_e h e_159
    clear e_159
    refine lv_istore (lv' := [(4, .int x4_159), (0, .ref (a 0)), (1, .int x1), (3, .int x3)]) hx hb dX6_payAll_159 hl (by decide) rfl (fun ls hl => ?_)
    refine lv_goto (tgt := 19) hx hb dX6_payAll_161 (by decide) ?_
    exact hk19 _ _ _ z x3 x4_159 h hI (lv_sub hl [1,2,3,0] rfl)
  have j90 : ∀ (z : bw_A1) (x1 : Int32) (x3 : Int32) (x4 : Int32) (x5 : Int32) (s0 : Int32) (k19 : bw_A1 → Int32 → Int32 → Option bw_A1) (hk19 : ∀ (H : Heap) (locs : List Loc) (ls : Array Slot) (z_ : bw_A1) (x3_ : Int32) (x4_ : Int32), k19 z_ x3_ x4_ = some z' → bw_I G A s.heap (bw_mW cy a z_ rows asd sm buf bm th od om ow ca bo la pl to rd hh) H locs → lv_has ls 7 [(0, .ref (a 0)), (1, .int x1), (3, .int x3_), (4, .int x4_)] → W p l e (bw_rm 3 64) s m [.ref (a 0), .int p1, .int p2].toArray below meth c H locs 0 0 Q (F0 m 19 ls [])) (H : Heap) (locs : List Loc) (ls : Array Slot), jX6_payAll_90 k19 z x1 x3 x4 x5 s0 = some z' → bw_I G A s.heap (bw_mW cy a z rows asd sm buf bm th od om ow ca bo la pl to rd hh) H locs → lv_has ls 7 [(0, .ref (a 0)), (1, .int x1), (3, .int x3), (4, .int x4), (5, .int x5)] → W p l e (bw_rm 3 64) s m [.ref (a 0), .int p1, .int p2].toArray below meth c H locs 0 0 Q (F0 m 90 ls [.int s0]) := by
    intro z x1 x3 x4 x5 s0 k19 hk19 H locs ls h hI hl
    unfold jX6_payAll_90 at h
    refine lv_istore (lv' := [(6, .int s0), (0, .ref (a 0)), (1, .int x1), (3, .int x3), (4, .int x4), (5, .int x5)]) hx hb dX6_payAll_90 hl (by decide) rfl (fun ls hl => ?_)
    refine lv_aload_n hx hb dX6_payAll_92 rfl (lv_at hl 1 rfl) ?_
    refine bw_get S hK hI 0 0 rfl rfl (by decide) i_X6 f_X6_7 rfl dX6_payAll_93 ?_
    refine lv_iload_n hx hb dX6_payAll_96 rfl (lv_at hl 2 rfl) ?_
    obtain ⟨r97, hc, h⟩ := bw_b1_e h
    refine bw_callP S hK hZ hI (mX6_at l G cy g x1 r97 hc) Y_X6_at V_X6_at l_X6_39 ⟨(Nat.le_of_ble_eq_true rfl), (Nat.le_of_ble_eq_true rfl)⟩ (rest := [.ref (a 1)]) (st1 := [.int r97, .ref (a 1)]) rfl hl.1 rfl rfl (Nat.le_of_ble_eq_true rfl) dX6_payAll_97 ⟨(Nat.le_of_ble_eq_true rfl), (Nat.le_of_ble_eq_true rfl)⟩ (fun H locs hI => ?_)
    refine lv_iconst (v := 2) hx hb dX6_payAll_100 rfl ?_
    refine lv_iadd hx hb dX6_payAll_101 ?_
    refine lv_dup2_11 hx hb dX6_payAll_102 rfl rfl ?_
    obtain ⟨v103, hv, h⟩ := bw_b1_e h
    refine bw_iald hx hb hK hI 1 hv rfl dX6_payAll_103 ?_
    refine lv_iload hx hb dX6_payAll_104 (lv_at hl 5 rfl) ?_
    refine lv_isub hx hb dX6_payAll_106 ?_
    obtain ⟨z_107, hv, h⟩ := bw_b1_e h
    refine bw_iast hx hb hK hI 1 (ws' := (bw_mW cy a z_107 rows asd sm buf bm th od om ow ca bo la pl to rd hh)) hv rfl rfl dX6_payAll_107 (fun H locs hI => ?_)
    refine lv_aload_n hx hb dX6_payAll_108 rfl (lv_at hl 1 rfl) ?_
    refine bw_get S hK hI 0 0 rfl rfl (by decide) i_X6 f_X6_7 rfl dX6_payAll_109 ?_
    refine lv_aload_n hx hb dX6_payAll_112 rfl (lv_at hl 1 rfl) ?_
    refine bw_get S hK hI 0 0 rfl rfl (by decide) i_X6 f_X6_7 rfl dX6_payAll_113 ?_
    refine lv_iload hx hb dX6_payAll_116 (lv_at hl 4 rfl) ?_
    obtain ⟨r118, hc, h⟩ := bw_b1_e h
    refine bw_callP S hK hZ hI (mX6_loanAt l G cy g x4 r118 hc) Y_X6_loanAt V_X6_loanAt l_X6_50 ⟨(Nat.le_of_ble_eq_true rfl), (Nat.le_of_ble_eq_true rfl)⟩ (rest := [.ref (a 1), .ref (a 1)]) (st1 := [.int r118, .ref (a 1), .ref (a 1)]) rfl hl.1 rfl rfl (Nat.le_of_ble_eq_true rfl) dX6_payAll_118 ⟨(Nat.le_of_ble_eq_true rfl), (Nat.le_of_ble_eq_true rfl)⟩ (fun H locs hI => ?_)
    obtain ⟨v121, hv, h⟩ := bw_b1_e h
    refine bw_iald hx hb hK hI 1 hv rfl dX6_payAll_121 ?_
    obtain ⟨r122, hc, h⟩ := bw_b1_e h
    refine bw_callP S hK hZ hI (mX6_at l G cy g v121 r122 hc) Y_X6_at V_X6_at l_X6_39 ⟨(Nat.le_of_ble_eq_true rfl), (Nat.le_of_ble_eq_true rfl)⟩ (rest := [.ref (a 1)]) (st1 := [.int r122, .ref (a 1)]) rfl hl.1 rfl rfl (Nat.le_of_ble_eq_true rfl) dX6_payAll_122 ⟨(Nat.le_of_ble_eq_true rfl), (Nat.le_of_ble_eq_true rfl)⟩ (fun H locs hI => ?_)
    refine lv_iconst (v := 2) hx hb dX6_payAll_125 rfl ?_
    refine lv_iadd hx hb dX6_payAll_126 ?_
    refine lv_dup2_11 hx hb dX6_payAll_127 rfl rfl ?_
    obtain ⟨v128, hv, h⟩ := bw_b1_e h
    refine bw_iald hx hb hK hI 1 hv rfl dX6_payAll_128 ?_
    refine lv_iload hx hb dX6_payAll_129 (lv_at hl 5 rfl) ?_
    refine lv_iadd hx hb dX6_payAll_131 ?_
    obtain ⟨z_132, hv, h⟩ := bw_b1_e h
    refine bw_iast hx hb hK hI 1 (ws' := (bw_mW cy a z_132 rows asd sm buf bm th od om ow ca bo la pl to rd hh)) hv rfl rfl dX6_payAll_132 (fun H locs hI => ?_)
    refine lv_iload_n hx hb dX6_payAll_133 rfl (lv_at hl 3 rfl) ?_
    refine lv_iload hx hb dX6_payAll_134 (lv_at hl 5 rfl) ?_
    refine lv_isub hx hb dX6_payAll_136 ?_
    refine lv_topi (fun x3_137 e_137 => ?_)
    have h := bw_let_e h e_137
    clear e_137
    refine lv_istore_n (lv' := [(3, .int x3_137), (6, .int s0), (0, .ref (a 0)), (1, .int x1), (4, .int x4), (5, .int x5)]) hx hb dX6_payAll_137 rfl hl (by decide) rfl (fun ls hl => ?_)
    refine lv_aload_n hx hb dX6_payAll_138 rfl (lv_at hl 2 rfl) ?_
    refine lv_iload hx hb dX6_payAll_139 (lv_at hl 4 rfl) ?_
    refine lv_iload hx hb dX6_payAll_141 (lv_at hl 5 rfl) ?_
    obtain ⟨z_143, hc, h⟩ := bw_b1_e h
    refine bw_callV S hK hZ hI (mX6_cutLoan l G cy g a z_132 rows asd sm buf bm th od om ow ca bo la pl to rd hh x4 x5 z_143 hc) Y_X6_cutLoan V_X6_cutLoan l_X6_64 ⟨(Nat.le_of_ble_eq_true rfl), (Nat.le_of_ble_eq_true rfl)⟩ (q0 := 0) rfl rfl rfl (ws' := (bw_mW cy a z_143 rows asd sm buf bm th od om ow ca bo la pl to rd hh)) (bw_pS _) (bw_pS' _) rfl rfl hl.1 (rest := []) (st1 := []) rfl rfl (Nat.le_of_ble_eq_true rfl) dX6_payAll_143 ⟨(Nat.le_of_ble_eq_true rfl), (Nat.le_of_ble_eq_true rfl)⟩ (fun H locs hI => ?_)
    refine lv_iload hx hb dX6_payAll_146 (lv_at hl 4 rfl) ?_
    refine lv_iload hx hb dX6_payAll_148 (lv_at hl 1 rfl) ?_
    refine lv_if_eq (tgt := 157) hx hb dX6_payAll_150 (by decide) (fun c_150 => ?_) (fun c_150 => ?_)
    · rw [if_pos c_150] at h
      refine lv_iconst (v := 1) hx hb dX6_payAll_157 rfl ?_
      exact j158 z_143 x1 x3_137 1 x4 k19 hk19 _ _ _ h hI (lv_sub hl [2,3,0] rfl)
    rw [if_neg c_150] at h
    refine lv_iconst (v := 0) hx hb dX6_payAll_153 rfl ?_
    refine lv_goto (tgt := 158) hx hb dX6_payAll_154 (by decide) ?_
    exact j158 z_143 x1 x3_137 0 x4 k19 hk19 _ _ _ h hI (lv_sub hl [2,3,0] rfl)
  have l19 : ∀ (x1 : Int32) (n : Nat) (H : Heap) (locs : List Loc) (ls : Array Slot) (z : bw_A1) (x3 : Int32) (x4 : Int32), lX6_payAll_19 x1 n z x3 x4 = some z' → bw_I G A s.heap (bw_mW cy a z rows asd sm buf bm th od om ow ca bo la pl to rd hh) H locs → lv_has ls 7 [(0, .ref (a 0)), (1, .int x1), (3, .int x3), (4, .int x4)] → W p l e (bw_rm 3 64) s m [.ref (a 0), .int p1, .int p2].toArray below meth c H locs 0 0 Q (F0 m 19 ls []) := by
    intro x1 n
    induction n with
    | zero => intro H locs ls z x3 x4 h; exact bw_none h
    | succ n ih =>
      intro H locs ls z x3 x4 h hI hl
      have h : bX6_payAll_19  (lX6_payAll_19 x1 n) x1 z x3 x4 = some z' := h
      unfold bX6_payAll_19 at h
      refine lv_iload hx hb dX6_payAll_19 (lv_at hl 3 rfl) ?_
      refine lv_aload_n hx hb dX6_payAll_21 rfl (lv_at hl 0 rfl) ?_
      refine bw_get S hK hI 0 0 rfl rfl (by decide) i_X6 f_X6_7 rfl dX6_payAll_22 ?_
      refine lv_iconst (v := 1) hx hb dX6_payAll_25 rfl ?_
      obtain ⟨v26, hv, h⟩ := bw_b1_e h
      refine bw_iald hx hb hK hI 1 hv rfl dX6_payAll_26 ?_
      refine lv_icmp_ge (tgt := 170) hx hb dX6_payAll_27 (by decide) (fun c_27 => ?_) (fun c_27 => ?_)
      · rw [if_pos c_27] at h
        exact bw_vret (d := z) (rr := z') S hr hlocks h (fun q : bw_A1 => (bw_mW cy a q rows asd sm buf bm th od om ow ca bo la pl to rd hh)) hI dX6_payAll_170 hQ
      rw [if_neg c_27] at h
      refine lv_iload_n hx hb dX6_payAll_30 rfl (lv_at hl 2 rfl) ?_
      refine lv_if_le (tgt := 170) hx hb dX6_payAll_31 (by decide) (fun c_31 => ?_) (fun c_31 => ?_)
      · rw [if_pos c_31] at h
        exact bw_vret (d := z) (rr := z') S hr hlocks h (fun q : bw_A1 => (bw_mW cy a q rows asd sm buf bm th od om ow ca bo la pl to rd hh)) hI dX6_payAll_170 hQ
      rw [if_neg c_31] at h
      refine lv_aload_n hx hb dX6_payAll_34 rfl (lv_at hl 0 rfl) ?_
      refine bw_get S hK hI 0 0 rfl rfl (by decide) i_X6 f_X6_7 rfl dX6_payAll_35 ?_
      refine lv_iload hx hb dX6_payAll_38 (lv_at hl 3 rfl) ?_
      obtain ⟨r40, hc, h⟩ := bw_b1_e h
      refine bw_callP S hK hZ hI (mX6_loanAt l G cy g x4 r40 hc) Y_X6_loanAt V_X6_loanAt l_X6_50 ⟨(Nat.le_of_ble_eq_true rfl), (Nat.le_of_ble_eq_true rfl)⟩ (rest := [.ref (a 1)]) (st1 := [.int r40, .ref (a 1)]) rfl hl.1 rfl rfl (Nat.le_of_ble_eq_true rfl) dX6_payAll_40 ⟨(Nat.le_of_ble_eq_true rfl), (Nat.le_of_ble_eq_true rfl)⟩ (fun H locs hI => ?_)
      refine lv_iconst (v := 1) hx hb dX6_payAll_43 rfl ?_
      refine lv_iadd hx hb dX6_payAll_44 ?_
      obtain ⟨v45, hv, h⟩ := bw_b1_e h
      refine bw_iald hx hb hK hI 1 hv rfl dX6_payAll_45 ?_
      refine lv_iload_n hx hb dX6_payAll_46 rfl (lv_at hl 1 rfl) ?_
      refine lv_icmp_ne (tgt := 164) hx hb dX6_payAll_47 (by decide) (fun c_47 => ?_) (fun c_47 => ?_)
      · rw [if_neg c_47] at h
        obtain ⟨x4_164, e_164⟩ : ∃ y : Int32, y = x4 + 1 := ⟨_, rfl⟩
        have h := bw_let_e h e_164
        refine lv_iinc (v := x4_164) (lv' := [(4, .int x4_164), (0, .ref (a 0)), (1, .int x1), (3, .int x3)]) hx hb dX6_payAll_164 hl (k := 3) rfl (by rw [e_164]; rfl) (by decide) rfl (fun ls hl => ?_)
        clear e_164
        refine lv_goto (tgt := 19) hx hb dX6_payAll_167 (by decide) ?_
        exact ih _ _ _ z x3 x4_164 h hI (lv_sub hl [1,2,3,0] rfl)
      rw [if_pos c_47] at h
      refine lv_iload_n hx hb dX6_payAll_50 rfl (lv_at hl 2 rfl) ?_
      refine lv_aload_n hx hb dX6_payAll_51 rfl (lv_at hl 0 rfl) ?_
      refine bw_get S hK hI 0 0 rfl rfl (by decide) i_X6 f_X6_7 rfl dX6_payAll_52 ?_
      refine lv_iload hx hb dX6_payAll_55 (lv_at hl 3 rfl) ?_
      obtain ⟨r57, hc, h⟩ := bw_b1_e h
      refine bw_callP S hK hZ hI (mX6_loanAt l G cy g x4 r57 hc) Y_X6_loanAt V_X6_loanAt l_X6_50 ⟨(Nat.le_of_ble_eq_true rfl), (Nat.le_of_ble_eq_true rfl)⟩ (rest := [.ref (a 1), .int x3]) (st1 := [.int r57, .ref (a 1), .int x3]) rfl hl.1 rfl rfl (Nat.le_of_ble_eq_true rfl) dX6_payAll_57 ⟨(Nat.le_of_ble_eq_true rfl), (Nat.le_of_ble_eq_true rfl)⟩ (fun H locs hI => ?_)
      refine lv_iconst (v := 2) hx hb dX6_payAll_60 rfl ?_
      refine lv_iadd hx hb dX6_payAll_61 ?_
      obtain ⟨v62, hv, h⟩ := bw_b1_e h
      refine bw_iald hx hb hK hI 1 hv rfl dX6_payAll_62 ?_
      obtain ⟨r63, hc, h⟩ := bw_b1_e h
      refine bw_callP S hK hZ hI (mX6_least l G cy g x3 v62 r63 hc) Y_X6_least V_X6_least l_X6_61 ⟨(Nat.le_of_ble_eq_true rfl), (Nat.le_of_ble_eq_true rfl)⟩ (rest := []) (st1 := [.int r63]) rfl hl.1 rfl rfl (Nat.le_of_ble_eq_true rfl) dX6_payAll_63 ⟨(Nat.le_of_ble_eq_true rfl), (Nat.le_of_ble_eq_true rfl)⟩ (fun H locs hI => ?_)
      refine lv_istore (lv' := [(5, .int r63), (0, .ref (a 0)), (1, .int x1), (3, .int x3), (4, .int x4)]) hx hb dX6_payAll_66 hl (by decide) rfl (fun ls hl => ?_)
      refine lv_iload hx hb dX6_payAll_68 (lv_at hl 0 rfl) ?_
      refine lv_aload_n hx hb dX6_payAll_70 rfl (lv_at hl 1 rfl) ?_
      refine bw_get S hK hI 0 0 rfl rfl (by decide) i_X6 f_X6_7 rfl dX6_payAll_71 ?_
      refine lv_iload hx hb dX6_payAll_74 (lv_at hl 4 rfl) ?_
      obtain ⟨r76, hc, h⟩ := bw_b1_e h
      refine bw_callP S hK hZ hI (mX6_loanAt l G cy g x4 r76 hc) Y_X6_loanAt V_X6_loanAt l_X6_50 ⟨(Nat.le_of_ble_eq_true rfl), (Nat.le_of_ble_eq_true rfl)⟩ (rest := [.ref (a 1), .int r63]) (st1 := [.int r76, .ref (a 1), .int r63]) rfl hl.1 rfl rfl (Nat.le_of_ble_eq_true rfl) dX6_payAll_76 ⟨(Nat.le_of_ble_eq_true rfl), (Nat.le_of_ble_eq_true rfl)⟩ (fun H locs hI => ?_)
      refine lv_iconst (v := 2) hx hb dX6_payAll_79 rfl ?_
      refine lv_iadd hx hb dX6_payAll_80 ?_
      obtain ⟨v81, hv, h⟩ := bw_b1_e h
      refine bw_iald hx hb hK hI 1 hv rfl dX6_payAll_81 ?_
      refine lv_icmp_ne (tgt := 89) hx hb dX6_payAll_82 (by decide) (fun c_82 => ?_) (fun c_82 => ?_)
      · rw [if_neg c_82] at h
        refine lv_iconst (v := 0) hx hb dX6_payAll_89 rfl ?_
        exact j90 z x1 x3 x4 r63 0 (lX6_payAll_19 x1 n) ih _ _ _ h hI (lv_sub hl [1,2,3,4,0] rfl)
      rw [if_pos c_82] at h
      refine lv_iconst (v := 1) hx hb dX6_payAll_85 rfl ?_
      refine lv_goto (tgt := 90) hx hb dX6_payAll_86 (by decide) ?_
      exact j90 z x1 x3 x4 r63 1 (lX6_payAll_19 x1 n) ih _ _ _ h hI (lv_sub hl [1,2,3,4,0] rfl)
  unfold fX6_payAll at h
  refine lv_iload_n hx hb dX6_payAll_0 rfl (lv_at hl 2 rfl) ?_
  refine lv_aload_n hx hb dX6_payAll_1 rfl (lv_at hl 0 rfl) ?_
  refine bw_get S hK hI 0 0 rfl rfl (by decide) i_X6 f_X6_7 rfl dX6_payAll_2 ?_
  refine lv_iload_n hx hb dX6_payAll_5 rfl (lv_at hl 1 rfl) ?_
  obtain ⟨r6, hc, h⟩ := bw_b1_e h
  refine bw_callP S hK hZ hI (mX6_at l G cy g p1 r6 hc) Y_X6_at V_X6_at l_X6_39 ⟨(Nat.le_of_ble_eq_true rfl), (Nat.le_of_ble_eq_true rfl)⟩ (rest := [.ref (a 1), .int p2]) (st1 := [.int r6, .ref (a 1), .int p2]) rfl hl.1 rfl rfl (Nat.le_of_ble_eq_true rfl) dX6_payAll_6 ⟨(Nat.le_of_ble_eq_true rfl), (Nat.le_of_ble_eq_true rfl)⟩ (fun H locs hI => ?_)
  refine lv_iconst (v := 2) hx hb dX6_payAll_9 rfl ?_
  refine lv_iadd hx hb dX6_payAll_10 ?_
  obtain ⟨v11, hv, h⟩ := bw_b1_e h
  refine bw_iald hx hb hK hI 1 hv rfl dX6_payAll_11 ?_
  obtain ⟨r12, hc, h⟩ := bw_b1_e h
  refine bw_callP S hK hZ hI (mX6_least l G cy g p2 v11 r12 hc) Y_X6_least V_X6_least l_X6_61 ⟨(Nat.le_of_ble_eq_true rfl), (Nat.le_of_ble_eq_true rfl)⟩ (rest := []) (st1 := [.int r12]) rfl hl.1 rfl rfl (Nat.le_of_ble_eq_true rfl) dX6_payAll_12 ⟨(Nat.le_of_ble_eq_true rfl), (Nat.le_of_ble_eq_true rfl)⟩ (fun H locs hI => ?_)
  refine lv_istore_n (lv' := [(3, .int r12), (0, .ref (a 0)), (1, .int p1), (2, .int p2)]) hx hb dX6_payAll_15 rfl hl (by decide) rfl (fun ls hl => ?_)
  refine lv_iconst (v := 0) hx hb dX6_payAll_16 rfl ?_
  refine lv_istore (lv' := [(4, .int 0), (3, .int r12), (0, .ref (a 0)), (1, .int p1), (2, .int p2)]) hx hb dX6_payAll_17 hl (by decide) rfl (fun ls hl => ?_)
  exact l19 p1 bw_fu _ _ _ z r12 0 h hI (lv_sub hl [2,3,1,0] rfl)
set_option maxHeartbeats 4000000 in
set_option maxRecDepth 100000 in
theorem mX6_lentBy (l : Launch) (G : va_G) (cy : Nat → ClassId) (g : Nat) (a : Nat → Nat) (z : bw_A1) (rows : bw_A1) (asd : bw_A1) (sm : Int32) (buf : bw_A1) (bm : Int32) (th : Int32) (od : bw_A1) (om : Int32) (ow : Int32) (ca : Int32) (bo : Int32) (la : Int32) (pl : Int32) (to : Int32) (rd : bw_A1) (hh : Int64) (p1 : Int32) (r : Int32) (h : fX6_lentBy z p1 = some r) : bw_M l yX6_lentBy cX6_lentBy 4 (some .int) 1 20 G cy g [.ref (a 0), .int p1] (bw_mW cy a z rows asd sm buf bm th od om ow ca bo la pl to rd hh) (some (.int r)) (bw_mW cy a z rows asd sm buf bm th od om ow ca bo la pl to rd hh) := by
  refine bw_ofW (by decide +kernel) RX6 rfl (Nat.le_of_ble_eq_true rfl) ?_
  intro p e s m below meth c ls S hr hlocks hK hZ hI hl
  have hx := S.1
  have hb := S.2.1
  have hown := S.2.2.2.1
  have hts := S.2.2.2.2
  generalize va_A _ s.heap.size = A at hI hZ ⊢
  generalize hQ : MQ below _ _ s 0 0 A = Q
  have hl : lv_has ls 4 [(0, .ref (a 0)), (1, .int p1)] := hl
  have j43 : ∀ (x1 : Int32) (x3 : Int32) (s0 : Int32) (s1 : Int32) (k4 : Int32 → Int32 → Option Int32) (hk4 : ∀ (H : Heap) (locs : List Loc) (ls : Array Slot) (x2_ : Int32) (x3_ : Int32), k4 x2_ x3_ = some r → bw_I G A s.heap (bw_mW cy a z rows asd sm buf bm th od om ow ca bo la pl to rd hh) H locs → lv_has ls 4 [(0, .ref (a 0)), (1, .int x1), (2, .int x2_), (3, .int x3_)] → W p l e (bw_rm 1 20) s m [.ref (a 0), .int p1].toArray below meth c H locs 0 0 Q (F0 m 4 ls [])) (H : Heap) (locs : List Loc) (ls : Array Slot), jX6_lentBy_43 k4 z x1 x3 s0 s1 = some r → bw_I G A s.heap (bw_mW cy a z rows asd sm buf bm th od om ow ca bo la pl to rd hh) H locs → lv_has ls 4 [(0, .ref (a 0)), (1, .int x1), (3, .int x3)] → W p l e (bw_rm 1 20) s m [.ref (a 0), .int p1].toArray below meth c H locs 0 0 Q (F0 m 43 ls [.int s0, .int s1]) := by
    intro x1 x3 s0 s1 k4 hk4 H locs ls h hI hl
    unfold jX6_lentBy_43 at h
    refine lv_iadd hx hb dX6_lentBy_43 ?_
    refine lv_topi (fun x2_44 e_44 => ?_)
    have h := bw_let_e h e_44
    clear e_44
    refine lv_istore_n (lv' := [(2, .int x2_44), (0, .ref (a 0)), (1, .int x1), (3, .int x3)]) hx hb dX6_lentBy_44 rfl hl (by decide) rfl (fun ls hl => ?_)
    obtain ⟨x3_45, e_45⟩ : ∃ y : Int32, y = x3 + 1 := ⟨_, rfl⟩
    have h := bw_let_e h e_45
    refine lv_iinc (v := x3_45) (lv' := [(3, .int x3_45), (2, .int x2_44), (0, .ref (a 0)), (1, .int x1)]) hx hb dX6_lentBy_45 hl (k := 3) rfl (by rw [e_45]; rfl) (by decide) rfl (fun ls hl => ?_)
    clear e_45
    refine lv_goto (tgt := 4) hx hb dX6_lentBy_48 (by decide) ?_
    exact hk4 _ _ _ x2_44 x3_45 h hI (lv_sub hl [2,3,1,0] rfl)
  have l4 : ∀ (x1 : Int32) (n : Nat) (H : Heap) (locs : List Loc) (ls : Array Slot) (x2 : Int32) (x3 : Int32), lX6_lentBy_4 z x1 n x2 x3 = some r → bw_I G A s.heap (bw_mW cy a z rows asd sm buf bm th od om ow ca bo la pl to rd hh) H locs → lv_has ls 4 [(0, .ref (a 0)), (1, .int x1), (2, .int x2), (3, .int x3)] → W p l e (bw_rm 1 20) s m [.ref (a 0), .int p1].toArray below meth c H locs 0 0 Q (F0 m 4 ls []) := by
    intro x1 n
    induction n with
    | zero => intro H locs ls x2 x3 h; exact bw_none h
    | succ n ih =>
      intro H locs ls x2 x3 h hI hl
      have h : bX6_lentBy_4  (lX6_lentBy_4 z x1 n) z x1 x2 x3 = some r := h
      unfold bX6_lentBy_4 at h
      refine lv_iload_n hx hb dX6_lentBy_4 rfl (lv_at hl 3 rfl) ?_
      refine lv_aload_n hx hb dX6_lentBy_5 rfl (lv_at hl 0 rfl) ?_
      refine bw_get S hK hI 0 0 rfl rfl (by decide) i_X6 f_X6_7 rfl dX6_lentBy_6 ?_
      refine lv_iconst (v := 1) hx hb dX6_lentBy_9 rfl ?_
      obtain ⟨v10, hv, h⟩ := bw_b1_e h
      refine bw_iald hx hb hK hI 1 hv rfl dX6_lentBy_10 ?_
      refine lv_icmp_ge (tgt := 51) hx hb dX6_lentBy_11 (by decide) (fun c_11 => ?_) (fun c_11 => ?_)
      · rw [if_pos c_11] at h
        refine lv_iload_n hx hb dX6_lentBy_51 rfl (lv_at hl 2 rfl) ?_
        exact bw_iretP S hr hlocks h hI rfl dX6_lentBy_52 hQ
      rw [if_neg c_11] at h
      refine lv_iload_n hx hb dX6_lentBy_14 rfl (lv_at hl 2 rfl) ?_
      refine lv_aload_n hx hb dX6_lentBy_15 rfl (lv_at hl 0 rfl) ?_
      refine bw_get S hK hI 0 0 rfl rfl (by decide) i_X6 f_X6_7 rfl dX6_lentBy_16 ?_
      refine lv_iload_n hx hb dX6_lentBy_19 rfl (lv_at hl 3 rfl) ?_
      obtain ⟨r20, hc, h⟩ := bw_b1_e h
      refine bw_callP S hK hZ hI (mX6_loanAt l G cy g x3 r20 hc) Y_X6_loanAt V_X6_loanAt l_X6_50 ⟨(Nat.le_of_ble_eq_true rfl), (Nat.le_of_ble_eq_true rfl)⟩ (rest := [.ref (a 1), .int x2]) (st1 := [.int r20, .ref (a 1), .int x2]) rfl hl.1 rfl rfl (Nat.le_of_ble_eq_true rfl) dX6_lentBy_20 ⟨(Nat.le_of_ble_eq_true rfl), (Nat.le_of_ble_eq_true rfl)⟩ (fun H locs hI => ?_)
      obtain ⟨v23, hv, h⟩ := bw_b1_e h
      refine bw_iald hx hb hK hI 1 hv rfl dX6_lentBy_23 ?_
      refine lv_iload_n hx hb dX6_lentBy_24 rfl (lv_at hl 1 rfl) ?_
      refine lv_icmp_ne (tgt := 42) hx hb dX6_lentBy_25 (by decide) (fun c_25 => ?_) (fun c_25 => ?_)
      · rw [if_neg c_25] at h
        refine lv_iconst (v := 0) hx hb dX6_lentBy_42 rfl ?_
        exact j43 x1 x3 0 x2 (lX6_lentBy_4 z x1 n) ih _ _ _ h hI (lv_sub hl [0,1,3] rfl)
      rw [if_pos c_25] at h
      refine lv_aload_n hx hb dX6_lentBy_28 rfl (lv_at hl 0 rfl) ?_
      refine bw_get S hK hI 0 0 rfl rfl (by decide) i_X6 f_X6_7 rfl dX6_lentBy_29 ?_
      refine lv_iload_n hx hb dX6_lentBy_32 rfl (lv_at hl 3 rfl) ?_
      obtain ⟨r33, hc, h⟩ := bw_b1_e h
      refine bw_callP S hK hZ hI (mX6_loanAt l G cy g x3 r33 hc) Y_X6_loanAt V_X6_loanAt l_X6_50 ⟨(Nat.le_of_ble_eq_true rfl), (Nat.le_of_ble_eq_true rfl)⟩ (rest := [.ref (a 1), .int x2]) (st1 := [.int r33, .ref (a 1), .int x2]) rfl hl.1 rfl rfl (Nat.le_of_ble_eq_true rfl) dX6_lentBy_33 ⟨(Nat.le_of_ble_eq_true rfl), (Nat.le_of_ble_eq_true rfl)⟩ (fun H locs hI => ?_)
      refine lv_iconst (v := 2) hx hb dX6_lentBy_36 rfl ?_
      refine lv_iadd hx hb dX6_lentBy_37 ?_
      obtain ⟨v38, hv, h⟩ := bw_b1_e h
      refine bw_iald hx hb hK hI 1 hv rfl dX6_lentBy_38 ?_
      refine lv_goto (tgt := 43) hx hb dX6_lentBy_39 (by decide) ?_
      exact j43 x1 x3 v38 x2 (lX6_lentBy_4 z x1 n) ih _ _ _ h hI (lv_sub hl [0,1,3] rfl)
  unfold fX6_lentBy at h
  refine lv_iconst (v := 0) hx hb dX6_lentBy_0 rfl ?_
  refine lv_istore_n (lv' := [(2, .int 0), (0, .ref (a 0)), (1, .int p1)]) hx hb dX6_lentBy_1 rfl hl (by decide) rfl (fun ls hl => ?_)
  refine lv_iconst (v := 0) hx hb dX6_lentBy_2 rfl ?_
  refine lv_istore_n (lv' := [(3, .int 0), (2, .int 0), (0, .ref (a 0)), (1, .int p1)]) hx hb dX6_lentBy_3 rfl hl (by decide) rfl (fun ls hl => ?_)
  exact l4 p1 bw_fu _ _ _ 0 0 h hI (lv_sub hl [2,3,1,0] rfl)
set_option maxHeartbeats 4000000 in
set_option maxRecDepth 100000 in
theorem mX6_owedBy (l : Launch) (G : va_G) (cy : Nat → ClassId) (g : Nat) (a : Nat → Nat) (z : bw_A1) (rows : bw_A1) (asd : bw_A1) (sm : Int32) (buf : bw_A1) (bm : Int32) (th : Int32) (od : bw_A1) (om : Int32) (ow : Int32) (ca : Int32) (bo : Int32) (la : Int32) (pl : Int32) (to : Int32) (rd : bw_A1) (hh : Int64) (p1 : Int32) (r : Int32) (h : fX6_owedBy z p1 = some r) : bw_M l yX6_owedBy cX6_owedBy 4 (some .int) 1 20 G cy g [.ref (a 0), .int p1] (bw_mW cy a z rows asd sm buf bm th od om ow ca bo la pl to rd hh) (some (.int r)) (bw_mW cy a z rows asd sm buf bm th od om ow ca bo la pl to rd hh) := by
  refine bw_ofW (by decide +kernel) RX6 rfl (Nat.le_of_ble_eq_true rfl) ?_
  intro p e s m below meth c ls S hr hlocks hK hZ hI hl
  have hx := S.1
  have hb := S.2.1
  have hown := S.2.2.2.1
  have hts := S.2.2.2.2
  generalize va_A _ s.heap.size = A at hI hZ ⊢
  generalize hQ : MQ below _ _ s 0 0 A = Q
  have hl : lv_has ls 4 [(0, .ref (a 0)), (1, .int p1)] := hl
  have j45 : ∀ (x1 : Int32) (x3 : Int32) (s0 : Int32) (s1 : Int32) (k4 : Int32 → Int32 → Option Int32) (hk4 : ∀ (H : Heap) (locs : List Loc) (ls : Array Slot) (x2_ : Int32) (x3_ : Int32), k4 x2_ x3_ = some r → bw_I G A s.heap (bw_mW cy a z rows asd sm buf bm th od om ow ca bo la pl to rd hh) H locs → lv_has ls 4 [(0, .ref (a 0)), (1, .int x1), (2, .int x2_), (3, .int x3_)] → W p l e (bw_rm 1 20) s m [.ref (a 0), .int p1].toArray below meth c H locs 0 0 Q (F0 m 4 ls [])) (H : Heap) (locs : List Loc) (ls : Array Slot), jX6_owedBy_45 k4 z x1 x3 s0 s1 = some r → bw_I G A s.heap (bw_mW cy a z rows asd sm buf bm th od om ow ca bo la pl to rd hh) H locs → lv_has ls 4 [(0, .ref (a 0)), (1, .int x1), (3, .int x3)] → W p l e (bw_rm 1 20) s m [.ref (a 0), .int p1].toArray below meth c H locs 0 0 Q (F0 m 45 ls [.int s0, .int s1]) := by
    intro x1 x3 s0 s1 k4 hk4 H locs ls h hI hl
    unfold jX6_owedBy_45 at h
    refine lv_iadd hx hb dX6_owedBy_45 ?_
    refine lv_topi (fun x2_46 e_46 => ?_)
    have h := bw_let_e h e_46
    clear e_46
    refine lv_istore_n (lv' := [(2, .int x2_46), (0, .ref (a 0)), (1, .int x1), (3, .int x3)]) hx hb dX6_owedBy_46 rfl hl (by decide) rfl (fun ls hl => ?_)
    obtain ⟨x3_47, e_47⟩ : ∃ y : Int32, y = x3 + 1 := ⟨_, rfl⟩
    have h := bw_let_e h e_47
    refine lv_iinc (v := x3_47) (lv' := [(3, .int x3_47), (2, .int x2_46), (0, .ref (a 0)), (1, .int x1)]) hx hb dX6_owedBy_47 hl (k := 3) rfl (by rw [e_47]; rfl) (by decide) rfl (fun ls hl => ?_)
    clear e_47
    refine lv_goto (tgt := 4) hx hb dX6_owedBy_50 (by decide) ?_
    exact hk4 _ _ _ x2_46 x3_47 h hI (lv_sub hl [2,3,1,0] rfl)
  have l4 : ∀ (x1 : Int32) (n : Nat) (H : Heap) (locs : List Loc) (ls : Array Slot) (x2 : Int32) (x3 : Int32), lX6_owedBy_4 z x1 n x2 x3 = some r → bw_I G A s.heap (bw_mW cy a z rows asd sm buf bm th od om ow ca bo la pl to rd hh) H locs → lv_has ls 4 [(0, .ref (a 0)), (1, .int x1), (2, .int x2), (3, .int x3)] → W p l e (bw_rm 1 20) s m [.ref (a 0), .int p1].toArray below meth c H locs 0 0 Q (F0 m 4 ls []) := by
    intro x1 n
    induction n with
    | zero => intro H locs ls x2 x3 h; exact bw_none h
    | succ n ih =>
      intro H locs ls x2 x3 h hI hl
      have h : bX6_owedBy_4  (lX6_owedBy_4 z x1 n) z x1 x2 x3 = some r := h
      unfold bX6_owedBy_4 at h
      refine lv_iload_n hx hb dX6_owedBy_4 rfl (lv_at hl 3 rfl) ?_
      refine lv_aload_n hx hb dX6_owedBy_5 rfl (lv_at hl 0 rfl) ?_
      refine bw_get S hK hI 0 0 rfl rfl (by decide) i_X6 f_X6_7 rfl dX6_owedBy_6 ?_
      refine lv_iconst (v := 1) hx hb dX6_owedBy_9 rfl ?_
      obtain ⟨v10, hv, h⟩ := bw_b1_e h
      refine bw_iald hx hb hK hI 1 hv rfl dX6_owedBy_10 ?_
      refine lv_icmp_ge (tgt := 53) hx hb dX6_owedBy_11 (by decide) (fun c_11 => ?_) (fun c_11 => ?_)
      · rw [if_pos c_11] at h
        refine lv_iload_n hx hb dX6_owedBy_53 rfl (lv_at hl 2 rfl) ?_
        exact bw_iretP S hr hlocks h hI rfl dX6_owedBy_54 hQ
      rw [if_neg c_11] at h
      refine lv_iload_n hx hb dX6_owedBy_14 rfl (lv_at hl 2 rfl) ?_
      refine lv_aload_n hx hb dX6_owedBy_15 rfl (lv_at hl 0 rfl) ?_
      refine bw_get S hK hI 0 0 rfl rfl (by decide) i_X6 f_X6_7 rfl dX6_owedBy_16 ?_
      refine lv_iload_n hx hb dX6_owedBy_19 rfl (lv_at hl 3 rfl) ?_
      obtain ⟨r20, hc, h⟩ := bw_b1_e h
      refine bw_callP S hK hZ hI (mX6_loanAt l G cy g x3 r20 hc) Y_X6_loanAt V_X6_loanAt l_X6_50 ⟨(Nat.le_of_ble_eq_true rfl), (Nat.le_of_ble_eq_true rfl)⟩ (rest := [.ref (a 1), .int x2]) (st1 := [.int r20, .ref (a 1), .int x2]) rfl hl.1 rfl rfl (Nat.le_of_ble_eq_true rfl) dX6_owedBy_20 ⟨(Nat.le_of_ble_eq_true rfl), (Nat.le_of_ble_eq_true rfl)⟩ (fun H locs hI => ?_)
      refine lv_iconst (v := 1) hx hb dX6_owedBy_23 rfl ?_
      refine lv_iadd hx hb dX6_owedBy_24 ?_
      obtain ⟨v25, hv, h⟩ := bw_b1_e h
      refine bw_iald hx hb hK hI 1 hv rfl dX6_owedBy_25 ?_
      refine lv_iload_n hx hb dX6_owedBy_26 rfl (lv_at hl 1 rfl) ?_
      refine lv_icmp_ne (tgt := 44) hx hb dX6_owedBy_27 (by decide) (fun c_27 => ?_) (fun c_27 => ?_)
      · rw [if_neg c_27] at h
        refine lv_iconst (v := 0) hx hb dX6_owedBy_44 rfl ?_
        exact j45 x1 x3 0 x2 (lX6_owedBy_4 z x1 n) ih _ _ _ h hI (lv_sub hl [0,1,3] rfl)
      rw [if_pos c_27] at h
      refine lv_aload_n hx hb dX6_owedBy_30 rfl (lv_at hl 0 rfl) ?_
      refine bw_get S hK hI 0 0 rfl rfl (by decide) i_X6 f_X6_7 rfl dX6_owedBy_31 ?_
      refine lv_iload_n hx hb dX6_owedBy_34 rfl (lv_at hl 3 rfl) ?_
      obtain ⟨r35, hc, h⟩ := bw_b1_e h
      refine bw_callP S hK hZ hI (mX6_loanAt l G cy g x3 r35 hc) Y_X6_loanAt V_X6_loanAt l_X6_50 ⟨(Nat.le_of_ble_eq_true rfl), (Nat.le_of_ble_eq_true rfl)⟩ (rest := [.ref (a 1), .int x2]) (st1 := [.int r35, .ref (a 1), .int x2]) rfl hl.1 rfl rfl (Nat.le_of_ble_eq_true rfl) dX6_owedBy_35 ⟨(Nat.le_of_ble_eq_true rfl), (Nat.le_of_ble_eq_true rfl)⟩ (fun H locs hI => ?_)
      refine lv_iconst (v := 2) hx hb dX6_owedBy_38 rfl ?_
      refine lv_iadd hx hb dX6_owedBy_39 ?_
      obtain ⟨v40, hv, h⟩ := bw_b1_e h
      refine bw_iald hx hb hK hI 1 hv rfl dX6_owedBy_40 ?_
      refine lv_goto (tgt := 45) hx hb dX6_owedBy_41 (by decide) ?_
      exact j45 x1 x3 v40 x2 (lX6_owedBy_4 z x1 n) ih _ _ _ h hI (lv_sub hl [0,1,3] rfl)
  unfold fX6_owedBy at h
  refine lv_iconst (v := 0) hx hb dX6_owedBy_0 rfl ?_
  refine lv_istore_n (lv' := [(2, .int 0), (0, .ref (a 0)), (1, .int p1)]) hx hb dX6_owedBy_1 rfl hl (by decide) rfl (fun ls hl => ?_)
  refine lv_iconst (v := 0) hx hb dX6_owedBy_2 rfl ?_
  refine lv_istore_n (lv' := [(3, .int 0), (2, .int 0), (0, .ref (a 0)), (1, .int p1)]) hx hb dX6_owedBy_3 rfl hl (by decide) rfl (fun ls hl => ?_)
  exact l4 p1 bw_fu _ _ _ 0 0 h hI (lv_sub hl [2,3,1,0] rfl)
set_option maxHeartbeats 4000000 in
set_option maxRecDepth 100000 in
theorem mX6_canLend (l : Launch) (G : va_G) (cy : Nat → ClassId) (g : Nat) (a : Nat → Nat) (z : bw_A1) (rows : bw_A1) (asd : bw_A1) (sm : Int32) (buf : bw_A1) (bm : Int32) (th : Int32) (od : bw_A1) (om : Int32) (ow : Int32) (ca : Int32) (bo : Int32) (la : Int32) (pl : Int32) (to : Int32) (rd : bw_A1) (hh : Int64) (p1 : Int32) (r : Int32) (h : fX6_canLend z p1 = some r) : bw_M l yX6_canLend cX6_canLend 4 (some .int) 2 41 G cy g [.ref (a 0), .int p1] (bw_mW cy a z rows asd sm buf bm th od om ow ca bo la pl to rd hh) (some (.int r)) (bw_mW cy a z rows asd sm buf bm th od om ow ca bo la pl to rd hh) := by
  refine bw_ofW (by decide +kernel) RX6 rfl (Nat.le_of_ble_eq_true rfl) ?_
  intro p e s m below meth c ls S hr hlocks hK hZ hI hl
  have hx := S.1
  have hb := S.2.1
  have hown := S.2.2.2.1
  have hts := S.2.2.2.2
  generalize va_A _ s.heap.size = A at hI hZ ⊢
  generalize hQ : MQ below _ _ s 0 0 A = Q
  have hl : lv_has ls 4 [(0, .ref (a 0)), (1, .int p1)] := hl
  have j49 : ∀  (H : Heap) (locs : List Loc) (ls : Array Slot), jX6_canLend_49 z = some r → bw_I G A s.heap (bw_mW cy a z rows asd sm buf bm th od om ow ca bo la pl to rd hh) H locs → lv_has ls 4 [] → W p l e (bw_rm 2 41) s m [.ref (a 0), .int p1].toArray below meth c H locs 0 0 Q (F0 m 49 ls []) := by
    intro  H locs ls h hI hl
    unfold jX6_canLend_49 at h
    refine lv_iconst (v := 0) hx hb dX6_canLend_49 rfl ?_
    exact bw_iretP S hr hlocks h hI rfl dX6_canLend_50 hQ
  unfold fX6_canLend at h
  refine lv_iload_n hx hb dX6_canLend_0 rfl (lv_at hl 1 rfl) ?_
  obtain ⟨r1, hc, h⟩ := bw_b1_e h
  refine bw_callP S hK hZ hI (mX6_at l G cy g p1 r1 hc) Y_X6_at V_X6_at l_X6_39 ⟨(Nat.le_of_ble_eq_true rfl), (Nat.le_of_ble_eq_true rfl)⟩ (rest := []) (st1 := [.int r1]) rfl hl.1 rfl rfl (Nat.le_of_ble_eq_true rfl) dX6_canLend_1 ⟨(Nat.le_of_ble_eq_true rfl), (Nat.le_of_ble_eq_true rfl)⟩ (fun H locs hI => ?_)
  refine lv_istore_n (lv' := [(2, .int r1), (0, .ref (a 0)), (1, .int p1)]) hx hb dX6_canLend_4 rfl hl (by decide) rfl (fun ls hl => ?_)
  refine lv_aload_n hx hb dX6_canLend_5 rfl (lv_at hl 1 rfl) ?_
  refine bw_get S hK hI 0 0 rfl rfl (by decide) i_X6 f_X6_7 rfl dX6_canLend_6 ?_
  refine lv_iload_n hx hb dX6_canLend_9 rfl (lv_at hl 0 rfl) ?_
  refine lv_iconst (v := 2) hx hb dX6_canLend_10 rfl ?_
  refine lv_iadd hx hb dX6_canLend_11 ?_
  obtain ⟨v12, hv, h⟩ := bw_b1_e h
  refine bw_iald hx hb hK hI 1 hv rfl dX6_canLend_12 ?_
  refine lv_aload_n hx hb dX6_canLend_13 rfl (lv_at hl 1 rfl) ?_
  refine bw_get S hK hI 0 0 rfl rfl (by decide) i_X6 f_X6_7 rfl dX6_canLend_14 ?_
  refine lv_iload_n hx hb dX6_canLend_17 rfl (lv_at hl 0 rfl) ?_
  refine lv_iconst (v := 1) hx hb dX6_canLend_18 rfl ?_
  refine lv_iadd hx hb dX6_canLend_19 ?_
  obtain ⟨v20, hv, h⟩ := bw_b1_e h
  refine bw_iald hx hb hK hI 1 hv rfl dX6_canLend_20 ?_
  refine lv_aload_n hx hb dX6_canLend_21 rfl (lv_at hl 1 rfl) ?_
  refine bw_get S hK hI 0 0 rfl rfl (by decide) i_X6 f_X6_7 rfl dX6_canLend_22 ?_
  refine lv_iconst (v := 4) hx hb dX6_canLend_25 rfl ?_
  obtain ⟨v26, hv, h⟩ := bw_b1_e h
  refine bw_iald hx hb hK hI 1 hv rfl dX6_canLend_26 ?_
  refine lv_imul hx hb dX6_canLend_27 ?_
  refine lv_bipush (v := 100) hx hb dX6_canLend_28 (by decide) ?_
  refine lv_idiv hx hb dX6_canLend_30 (by decide) ?_
  refine lv_isub hx hb dX6_canLend_31 ?_
  refine lv_topi (fun x3_32 e_32 => ?_)
  have h := bw_let_e h e_32
  clear e_32
  refine lv_istore_n (lv' := [(3, .int x3_32), (2, .int r1), (0, .ref (a 0)), (1, .int p1)]) hx hb dX6_canLend_32 rfl hl (by decide) rfl (fun ls hl => ?_)
  refine lv_aload_n hx hb dX6_canLend_33 rfl (lv_at hl 2 rfl) ?_
  refine lv_iload_n hx hb dX6_canLend_34 rfl (lv_at hl 3 rfl) ?_
  obtain ⟨r35, hc, h⟩ := bw_b1_e h
  refine bw_callV S hK hZ hI (mX6_isOpen l G cy g a z rows asd sm buf bm th od om ow ca bo la pl to rd hh p1 r35 hc) Y_X6_isOpen V_X6_isOpen l_X6_43 ⟨(Nat.le_of_ble_eq_true rfl), (Nat.le_of_ble_eq_true rfl)⟩ (q0 := 0) rfl rfl rfl (ws' := (bw_mW cy a z rows asd sm buf bm th od om ow ca bo la pl to rd hh)) (bw_pS _) (bw_pS' _) rfl rfl hl.1 (rest := []) (st1 := [.int r35]) rfl rfl (Nat.le_of_ble_eq_true rfl) dX6_canLend_35 ⟨(Nat.le_of_ble_eq_true rfl), (Nat.le_of_ble_eq_true rfl)⟩ (fun H locs hI => ?_)
  refine lv_if_eq (tgt := 49) hx hb dX6_canLend_38 (by decide) (fun c_38 => ?_) (fun c_38 => ?_)
  · rw [if_pos c_38] at h
    exact j49  _ _ _ h hI (lv_sub hl [] rfl)
  rw [if_neg c_38] at h
  refine lv_iload_n hx hb dX6_canLend_41 rfl (lv_at hl 0 rfl) ?_
  refine lv_if_le (tgt := 49) hx hb dX6_canLend_42 (by decide) (fun c_42 => ?_) (fun c_42 => ?_)
  · rw [if_pos c_42] at h
    exact j49  _ _ _ h hI (lv_sub hl [] rfl)
  rw [if_neg c_42] at h
  refine lv_iload_n hx hb dX6_canLend_45 rfl (lv_at hl 0 rfl) ?_
  refine lv_goto (tgt := 50) hx hb dX6_canLend_46 (by decide) ?_
  exact bw_iretP S hr hlocks h hI rfl dX6_canLend_50 hQ
set_option maxHeartbeats 4000000 in
set_option maxRecDepth 100000 in
theorem mX6_merit (l : Launch) (G : va_G) (cy : Nat → ClassId) (g : Nat) (a : Nat → Nat) (z : bw_A1) (rows : bw_A1) (asd : bw_A1) (sm : Int32) (buf : bw_A1) (bm : Int32) (th : Int32) (od : bw_A1) (om : Int32) (ow : Int32) (ca : Int32) (bo : Int32) (la : Int32) (pl : Int32) (to : Int32) (rd : bw_A1) (hh : Int64) (p1 : Int32) (r : Int32) (h : fX6_merit z p1 = some r) : bw_M l yX6_merit cX6_merit 2 (some .int) 3 64 G cy g [.ref (a 0), .int p1] (bw_mW cy a z rows asd sm buf bm th od om ow ca bo la pl to rd hh) (some (.int r)) (bw_mW cy a z rows asd sm buf bm th od om ow ca bo la pl to rd hh) := by
  refine bw_ofW (by decide +kernel) RX6 rfl (Nat.le_of_ble_eq_true rfl) ?_
  intro p e s m below meth c ls S hr hlocks hK hZ hI hl
  have hx := S.1
  have hb := S.2.1
  have hown := S.2.2.2.1
  have hts := S.2.2.2.2
  generalize va_A _ s.heap.size = A at hI hZ ⊢
  generalize hQ : MQ below _ _ s 0 0 A = Q
  have hl : lv_has ls 2 [(0, .ref (a 0)), (1, .int p1)] := hl
  unfold fX6_merit at h
  refine lv_aload_n hx hb dX6_merit_0 rfl (lv_at hl 0 rfl) ?_
  refine bw_get S hK hI 0 0 rfl rfl (by decide) i_X6 f_X6_7 rfl dX6_merit_1 ?_
  refine lv_iconst (v := 3) hx hb dX6_merit_4 rfl ?_
  obtain ⟨v5, hv, h⟩ := bw_b1_e h
  refine bw_iald hx hb hK hI 1 hv rfl dX6_merit_5 ?_
  refine lv_if_ne (tgt := 19) hx hb dX6_merit_6 (by decide) (fun c_6 => ?_) (fun c_6 => ?_)
  · rw [if_neg c_6] at h
    refine lv_aload_n hx hb dX6_merit_19 rfl (lv_at hl 0 rfl) ?_
    refine bw_get S hK hI 0 0 rfl rfl (by decide) i_X6 f_X6_7 rfl dX6_merit_20 ?_
    refine lv_iconst (v := 3) hx hb dX6_merit_23 rfl ?_
    obtain ⟨v24, hv, h⟩ := bw_b1_e h
    refine bw_iald hx hb hK hI 1 hv rfl dX6_merit_24 ?_
    refine lv_iconst (v := 1) hx hb dX6_merit_25 rfl ?_
    refine lv_icmp_ne (tgt := 37) hx hb dX6_merit_26 (by decide) (fun c_26 => ?_) (fun c_26 => ?_)
    · rw [if_neg c_26] at h
      refine lv_aload_n hx hb dX6_merit_37 rfl (lv_at hl 0 rfl) ?_
      refine lv_iload_n hx hb dX6_merit_38 rfl (lv_at hl 1 rfl) ?_
      obtain ⟨r39, hc, h⟩ := bw_b1_e h
      refine bw_callV S hK hZ hI (mX6_lentBy l G cy g a z rows asd sm buf bm th od om ow ca bo la pl to rd hh p1 r39 hc) Y_X6_lentBy V_X6_lentBy l_X6_71 ⟨(Nat.le_of_ble_eq_true rfl), (Nat.le_of_ble_eq_true rfl)⟩ (q0 := 0) rfl rfl rfl (ws' := (bw_mW cy a z rows asd sm buf bm th od om ow ca bo la pl to rd hh)) (bw_pS _) (bw_pS' _) rfl rfl hl.1 (rest := []) (st1 := [.int r39]) rfl rfl (Nat.le_of_ble_eq_true rfl) dX6_merit_39 ⟨(Nat.le_of_ble_eq_true rfl), (Nat.le_of_ble_eq_true rfl)⟩ (fun H locs hI => ?_)
      refine lv_ineg hx hb dX6_merit_42 ?_
      exact bw_iretP S hr hlocks h hI rfl dX6_merit_43 hQ
    rw [if_pos c_26] at h
    refine lv_aload_n hx hb dX6_merit_29 rfl (lv_at hl 0 rfl) ?_
    refine lv_iload_n hx hb dX6_merit_30 rfl (lv_at hl 1 rfl) ?_
    obtain ⟨r31, hc, h⟩ := bw_b1_e h
    refine bw_callV S hK hZ hI (mX6_canLend l G cy g a z rows asd sm buf bm th od om ow ca bo la pl to rd hh p1 r31 hc) Y_X6_canLend V_X6_canLend l_X6_68 ⟨(Nat.le_of_ble_eq_true rfl), (Nat.le_of_ble_eq_true rfl)⟩ (q0 := 0) rfl rfl rfl (ws' := (bw_mW cy a z rows asd sm buf bm th od om ow ca bo la pl to rd hh)) (bw_pS _) (bw_pS' _) rfl rfl hl.1 (rest := []) (st1 := [.int r31]) rfl rfl (Nat.le_of_ble_eq_true rfl) dX6_merit_31 ⟨(Nat.le_of_ble_eq_true rfl), (Nat.le_of_ble_eq_true rfl)⟩ (fun H locs hI => ?_)
    refine lv_goto (tgt := 43) hx hb dX6_merit_34 (by decide) ?_
    exact bw_iretP S hr hlocks h hI rfl dX6_merit_43 hQ
  rw [if_pos c_6] at h
  refine lv_aload_n hx hb dX6_merit_9 rfl (lv_at hl 0 rfl) ?_
  refine bw_get S hK hI 0 0 rfl rfl (by decide) i_X6 f_X6_7 rfl dX6_merit_10 ?_
  refine lv_iload_n hx hb dX6_merit_13 rfl (lv_at hl 1 rfl) ?_
  obtain ⟨r14, hc, h⟩ := bw_b1_e h
  refine bw_callP S hK hZ hI (mX6_at l G cy g p1 r14 hc) Y_X6_at V_X6_at l_X6_39 ⟨(Nat.le_of_ble_eq_true rfl), (Nat.le_of_ble_eq_true rfl)⟩ (rest := [.ref (a 1)]) (st1 := [.int r14, .ref (a 1)]) rfl hl.1 rfl rfl (Nat.le_of_ble_eq_true rfl) dX6_merit_14 ⟨(Nat.le_of_ble_eq_true rfl), (Nat.le_of_ble_eq_true rfl)⟩ (fun H locs hI => ?_)
  obtain ⟨v17, hv, h⟩ := bw_b1_e h
  refine bw_iald hx hb hK hI 1 hv rfl dX6_merit_17 ?_
  exact bw_iretP S hr hlocks h hI rfl dX6_merit_18 hQ
set_option maxHeartbeats 4000000 in
set_option maxRecDepth 100000 in
theorem mX6_layOrder (l : Launch) (G : va_G) (cy : Nat → ClassId) (g : Nat) (a : Nat → Nat) (z : bw_A1) (rows : bw_A1) (asd : bw_A1) (sm : Int32) (buf : bw_A1) (bm : Int32) (th : Int32) (od : bw_A1) (om : Int32) (ow : Int32) (ca : Int32) (bo : Int32) (la : Int32) (pl : Int32) (to : Int32) (rd : bw_A1) (hh : Int64) (p1 : Int32) (od' : bw_A1) (om' : Int32) (h : fX6_layOrder z od om p1 = some (od', om')) : bw_M l yX6_layOrder cX6_layOrder 7 none 4 85 G cy g [.ref (a 0), .int p1] (bw_mW cy a z rows asd sm buf bm th od om ow ca bo la pl to rd hh) none (bw_mW cy a z rows asd sm buf bm th od' om' ow ca bo la pl to rd hh) := by
  refine bw_ofW (by decide +kernel) RX6 rfl (Nat.le_of_ble_eq_true rfl) ?_
  intro p e s m below meth c ls S hr hlocks hK hZ hI hl
  have hx := S.1
  have hb := S.2.1
  have hown := S.2.2.2.1
  have hts := S.2.2.2.2
  generalize va_A _ s.heap.size = A at hI hZ ⊢
  generalize hQ : MQ below _ _ s 0 0 A = Q
  have hl : lv_has ls 7 [(0, .ref (a 0)), (1, .int p1)] := hl
  have j146 : ∀ (od : bw_A1) (om : Int32) (x2 : Int32) (x3 : Int32) (k15 : bw_A1 → Int32 → Int32 → Int32 → Option (bw_A1 × Int32)) (hk15 : ∀ (H : Heap) (locs : List Loc) (ls : Array Slot) (od_ : bw_A1) (om_ : Int32) (x2_ : Int32) (x3_ : Int32), k15 od_ om_ x2_ x3_ = some (od', om') → bw_I G A s.heap (bw_mW cy a z rows asd sm buf bm th od_ om_ ow ca bo la pl to rd hh) H locs → lv_has ls 7 [(0, .ref (a 0)), (2, .int x2_), (3, .int x3_)] → W p l e (bw_rm 4 85) s m [.ref (a 0), .int p1].toArray below meth c H locs 0 0 Q (F0 m 15 ls [])) (H : Heap) (locs : List Loc) (ls : Array Slot), jX6_layOrder_146 k15 z od om x2 x3 = some (od', om') → bw_I G A s.heap (bw_mW cy a z rows asd sm buf bm th od om ow ca bo la pl to rd hh) H locs → lv_has ls 7 [(0, .ref (a 0)), (2, .int x2), (3, .int x3)] → W p l e (bw_rm 4 85) s m [.ref (a 0), .int p1].toArray below meth c H locs 0 0 Q (F0 m 146 ls []) := by
    intro od om x2 x3 k15 hk15 H locs ls h hI hl
    unfold jX6_layOrder_146 at h
    refine lv_goto (tgt := 15) hx hb dX6_layOrder_146 (by decide) ?_
    exact hk15 _ _ _ od om x2 x3 h hI (lv_sub hl [0,1,2] rfl)
  have j113 : ∀ (od : bw_A1) (om : Int32) (x2 : Int32) (x4 : Int32) (s0 : Int32) (k15 : bw_A1 → Int32 → Int32 → Int32 → Option (bw_A1 × Int32)) (hk15 : ∀ (H : Heap) (locs : List Loc) (ls : Array Slot) (od_ : bw_A1) (om_ : Int32) (x2_ : Int32) (x3_ : Int32), k15 od_ om_ x2_ x3_ = some (od', om') → bw_I G A s.heap (bw_mW cy a z rows asd sm buf bm th od_ om_ ow ca bo la pl to rd hh) H locs → lv_has ls 7 [(0, .ref (a 0)), (2, .int x2_), (3, .int x3_)] → W p l e (bw_rm 4 85) s m [.ref (a 0), .int p1].toArray below meth c H locs 0 0 Q (F0 m 15 ls [])) (H : Heap) (locs : List Loc) (ls : Array Slot), jX6_layOrder_113 k15 z od om x2 x4 s0 = some (od', om') → bw_I G A s.heap (bw_mW cy a z rows asd sm buf bm th od om ow ca bo la pl to rd hh) H locs → lv_has ls 7 [(0, .ref (a 0)), (2, .int x2), (4, .int x4)] → W p l e (bw_rm 4 85) s m [.ref (a 0), .int p1].toArray below meth c H locs 0 0 Q (F0 m 113 ls [.int s0]) := by
    intro od om x2 x4 s0 k15 hk15 H locs ls h hI hl
    unfold jX6_layOrder_113 at h
    refine lv_istore_n (lv' := [(3, .int s0), (0, .ref (a 0)), (2, .int x2), (4, .int x4)]) hx hb dX6_layOrder_113 rfl hl (by decide) rfl (fun ls hl => ?_)
    refine lv_iload_n hx hb dX6_layOrder_114 rfl (lv_at hl 0 rfl) ?_
    refine lv_if_eq (tgt := 146) hx hb dX6_layOrder_115 (by decide) (fun c_115 => ?_) (fun c_115 => ?_)
    · rw [if_pos c_115] at h
      exact j146 od om x2 s0 k15 hk15 _ _ _ h hI (lv_sub hl [1,2,0] rfl)
    rw [if_neg c_115] at h
    refine lv_aload_n hx hb dX6_layOrder_118 rfl (lv_at hl 1 rfl) ?_
    refine bw_get S hK hI 0 7 rfl rfl (by decide) i_X6 f_X6_22 rfl dX6_layOrder_119 ?_
    refine lv_aload_n hx hb dX6_layOrder_122 rfl (lv_at hl 1 rfl) ?_
    refine bw_get S hK hI 0 8 rfl rfl (by decide) i_X6 f_X6_74 rfl dX6_layOrder_123 ?_
    refine lv_iload hx hb dX6_layOrder_126 (lv_at hl 3 rfl) ?_
    obtain ⟨od_128, hv, h⟩ := bw_b1_e h
    refine bw_iast hx hb hK hI 5 (ws' := (bw_mW cy a z rows asd sm buf bm th od_128 om ow ca bo la pl to rd hh)) hv rfl rfl dX6_layOrder_128 (fun H locs hI => ?_)
    refine lv_aload_n hx hb dX6_layOrder_129 rfl (lv_at hl 1 rfl) ?_
    refine lv_dup hx hb dX6_layOrder_130 rfl ?_
    refine bw_get S hK hI 0 8 rfl rfl (by decide) i_X6 f_X6_74 rfl dX6_layOrder_131 ?_
    refine lv_iconst (v := 1) hx hb dX6_layOrder_134 rfl ?_
    refine lv_iadd hx hb dX6_layOrder_135 ?_
    refine lv_topi (fun om_136 e_136 => ?_)
    have h := bw_let_e h e_136
    clear e_136
    refine bw_put S hK hI 0 8 (ws' := (bw_mW cy a z rows asd sm buf bm th od_128 om_136 ow ca bo la pl to rd hh)) tyX6 tyX6_ok nmX6 rfl rfl (by decide) i_X6 f_X6_74 rfl rfl rfl rfl (Nat.le_of_ble_eq_true rfl) rfl dX6_layOrder_136 (fun H locs hI => ?_)
    refine lv_iload_n hx hb dX6_layOrder_139 rfl (lv_at hl 2 rfl) ?_
    refine lv_iconst (v := 1) hx hb dX6_layOrder_140 rfl ?_
    refine lv_iload hx hb dX6_layOrder_141 (lv_at hl 3 rfl) ?_
    refine lv_ishl hx hb dX6_layOrder_143 ?_
    refine lv_ior hx hb dX6_layOrder_144 ?_
    refine lv_topi (fun x2_145 e_145 => ?_)
    have h := bw_let_e h e_145
    clear e_145
    refine lv_istore_n (lv' := [(2, .int x2_145), (3, .int s0), (0, .ref (a 0)), (4, .int x4)]) hx hb dX6_layOrder_145 rfl hl (by decide) rfl (fun ls hl => ?_)
    exact j146 od_128 om_136 x2_145 s0 k15 hk15 _ _ _ h hI (lv_sub hl [2,0,1] rfl)
  have j94 : ∀ (od : bw_A1) (om : Int32) (x2 : Int32) (x5 : Int32) (s0 : Int32) (k15 : bw_A1 → Int32 → Int32 → Int32 → Option (bw_A1 × Int32)) (hk15 : ∀ (H : Heap) (locs : List Loc) (ls : Array Slot) (od_ : bw_A1) (om_ : Int32) (x2_ : Int32) (x3_ : Int32), k15 od_ om_ x2_ x3_ = some (od', om') → bw_I G A s.heap (bw_mW cy a z rows asd sm buf bm th od_ om_ ow ca bo la pl to rd hh) H locs → lv_has ls 7 [(0, .ref (a 0)), (2, .int x2_), (3, .int x3_)] → W p l e (bw_rm 4 85) s m [.ref (a 0), .int p1].toArray below meth c H locs 0 0 Q (F0 m 15 ls [])) (k25 : Int32 → Int32 → Option (bw_A1 × Int32)) (hk25 : ∀ (H : Heap) (locs : List Loc) (ls : Array Slot) (x4_ : Int32) (x5_ : Int32), k25 x4_ x5_ = some (od', om') → bw_I G A s.heap (bw_mW cy a z rows asd sm buf bm th od om ow ca bo la pl to rd hh) H locs → lv_has ls 7 [(0, .ref (a 0)), (2, .int x2), (4, .int x4_), (5, .int x5_)] → W p l e (bw_rm 4 85) s m [.ref (a 0), .int p1].toArray below meth c H locs 0 0 Q (F0 m 25 ls [])) (H : Heap) (locs : List Loc) (ls : Array Slot), jX6_layOrder_94 k15 k25 z od om x2 x5 s0 = some (od', om') → bw_I G A s.heap (bw_mW cy a z rows asd sm buf bm th od om ow ca bo la pl to rd hh) H locs → lv_has ls 7 [(0, .ref (a 0)), (2, .int x2), (5, .int x5)] → W p l e (bw_rm 4 85) s m [.ref (a 0), .int p1].toArray below meth c H locs 0 0 Q (F0 m 94 ls [.int s0]) := by
    intro od om x2 x5 s0 k15 hk15 k25 hk25 H locs ls h hI hl
    unfold jX6_layOrder_94 at h
    refine lv_istore (lv' := [(4, .int s0), (0, .ref (a 0)), (2, .int x2), (5, .int x5)]) hx hb dX6_layOrder_94 hl (by decide) rfl (fun ls hl => ?_)
    obtain ⟨x5_96, e_96⟩ : ∃ y : Int32, y = x5 + 1 := ⟨_, rfl⟩
    have h := bw_let_e h e_96
    refine lv_iinc (v := x5_96) (lv' := [(5, .int x5_96), (4, .int s0), (0, .ref (a 0)), (2, .int x2)]) hx hb dX6_layOrder_96 hl (k := 3) rfl (by rw [e_96]; rfl) (by decide) rfl (fun ls hl => ?_)
    clear e_96
    refine lv_goto (tgt := 25) hx hb dX6_layOrder_99 (by decide) ?_
    exact hk25 _ _ _ s0 x5_96 h hI (lv_sub hl [2,3,1,0] rfl)
  have j92 : ∀ (od : bw_A1) (om : Int32) (x2 : Int32) (x4 : Int32) (x5 : Int32) (k15 : bw_A1 → Int32 → Int32 → Int32 → Option (bw_A1 × Int32)) (hk15 : ∀ (H : Heap) (locs : List Loc) (ls : Array Slot) (od_ : bw_A1) (om_ : Int32) (x2_ : Int32) (x3_ : Int32), k15 od_ om_ x2_ x3_ = some (od', om') → bw_I G A s.heap (bw_mW cy a z rows asd sm buf bm th od_ om_ ow ca bo la pl to rd hh) H locs → lv_has ls 7 [(0, .ref (a 0)), (2, .int x2_), (3, .int x3_)] → W p l e (bw_rm 4 85) s m [.ref (a 0), .int p1].toArray below meth c H locs 0 0 Q (F0 m 15 ls [])) (k25 : Int32 → Int32 → Option (bw_A1 × Int32)) (hk25 : ∀ (H : Heap) (locs : List Loc) (ls : Array Slot) (x4_ : Int32) (x5_ : Int32), k25 x4_ x5_ = some (od', om') → bw_I G A s.heap (bw_mW cy a z rows asd sm buf bm th od om ow ca bo la pl to rd hh) H locs → lv_has ls 7 [(0, .ref (a 0)), (2, .int x2), (4, .int x4_), (5, .int x5_)] → W p l e (bw_rm 4 85) s m [.ref (a 0), .int p1].toArray below meth c H locs 0 0 Q (F0 m 25 ls [])) (H : Heap) (locs : List Loc) (ls : Array Slot), jX6_layOrder_92 k15 k25 z od om x2 x4 x5 = some (od', om') → bw_I G A s.heap (bw_mW cy a z rows asd sm buf bm th od om ow ca bo la pl to rd hh) H locs → lv_has ls 7 [(0, .ref (a 0)), (2, .int x2), (4, .int x4), (5, .int x5)] → W p l e (bw_rm 4 85) s m [.ref (a 0), .int p1].toArray below meth c H locs 0 0 Q (F0 m 92 ls []) := by
    intro od om x2 x4 x5 k15 hk15 k25 hk25 H locs ls h hI hl
    unfold jX6_layOrder_92 at h
    refine lv_iload hx hb dX6_layOrder_92 (lv_at hl 2 rfl) ?_
    exact j94 od om x2 x5 x4 k15 hk15 k25 hk25 _ _ _ h hI (lv_sub hl [0,1,3] rfl)
  have j87 : ∀ (od : bw_A1) (om : Int32) (x2 : Int32) (x5 : Int32) (k15 : bw_A1 → Int32 → Int32 → Int32 → Option (bw_A1 × Int32)) (hk15 : ∀ (H : Heap) (locs : List Loc) (ls : Array Slot) (od_ : bw_A1) (om_ : Int32) (x2_ : Int32) (x3_ : Int32), k15 od_ om_ x2_ x3_ = some (od', om') → bw_I G A s.heap (bw_mW cy a z rows asd sm buf bm th od_ om_ ow ca bo la pl to rd hh) H locs → lv_has ls 7 [(0, .ref (a 0)), (2, .int x2_), (3, .int x3_)] → W p l e (bw_rm 4 85) s m [.ref (a 0), .int p1].toArray below meth c H locs 0 0 Q (F0 m 15 ls [])) (k25 : Int32 → Int32 → Option (bw_A1 × Int32)) (hk25 : ∀ (H : Heap) (locs : List Loc) (ls : Array Slot) (x4_ : Int32) (x5_ : Int32), k25 x4_ x5_ = some (od', om') → bw_I G A s.heap (bw_mW cy a z rows asd sm buf bm th od om ow ca bo la pl to rd hh) H locs → lv_has ls 7 [(0, .ref (a 0)), (2, .int x2), (4, .int x4_), (5, .int x5_)] → W p l e (bw_rm 4 85) s m [.ref (a 0), .int p1].toArray below meth c H locs 0 0 Q (F0 m 25 ls [])) (H : Heap) (locs : List Loc) (ls : Array Slot), jX6_layOrder_87 k15 k25 z od om x2 x5 = some (od', om') → bw_I G A s.heap (bw_mW cy a z rows asd sm buf bm th od om ow ca bo la pl to rd hh) H locs → lv_has ls 7 [(0, .ref (a 0)), (2, .int x2), (5, .int x5)] → W p l e (bw_rm 4 85) s m [.ref (a 0), .int p1].toArray below meth c H locs 0 0 Q (F0 m 87 ls []) := by
    intro od om x2 x5 k15 hk15 k25 hk25 H locs ls h hI hl
    unfold jX6_layOrder_87 at h
    refine lv_iload hx hb dX6_layOrder_87 (lv_at hl 2 rfl) ?_
    refine lv_goto (tgt := 94) hx hb dX6_layOrder_89 (by decide) ?_
    exact j94 od om x2 x5 x5 k15 hk15 k25 hk25 _ _ _ h hI (lv_sub hl [0,1,2] rfl)
  have j59 : ∀ (od : bw_A1) (om : Int32) (x2 : Int32) (x4 : Int32) (x5 : Int32) (s0 : Int32) (k15 : bw_A1 → Int32 → Int32 → Int32 → Option (bw_A1 × Int32)) (hk15 : ∀ (H : Heap) (locs : List Loc) (ls : Array Slot) (od_ : bw_A1) (om_ : Int32) (x2_ : Int32) (x3_ : Int32), k15 od_ om_ x2_ x3_ = some (od', om') → bw_I G A s.heap (bw_mW cy a z rows asd sm buf bm th od_ om_ ow ca bo la pl to rd hh) H locs → lv_has ls 7 [(0, .ref (a 0)), (2, .int x2_), (3, .int x3_)] → W p l e (bw_rm 4 85) s m [.ref (a 0), .int p1].toArray below meth c H locs 0 0 Q (F0 m 15 ls [])) (k25 : Int32 → Int32 → Option (bw_A1 × Int32)) (hk25 : ∀ (H : Heap) (locs : List Loc) (ls : Array Slot) (x4_ : Int32) (x5_ : Int32), k25 x4_ x5_ = some (od', om') → bw_I G A s.heap (bw_mW cy a z rows asd sm buf bm th od om ow ca bo la pl to rd hh) H locs → lv_has ls 7 [(0, .ref (a 0)), (2, .int x2), (4, .int x4_), (5, .int x5_)] → W p l e (bw_rm 4 85) s m [.ref (a 0), .int p1].toArray below meth c H locs 0 0 Q (F0 m 25 ls [])) (H : Heap) (locs : List Loc) (ls : Array Slot), jX6_layOrder_59 k15 k25 z od om x2 x4 x5 s0 = some (od', om') → bw_I G A s.heap (bw_mW cy a z rows asd sm buf bm th od om ow ca bo la pl to rd hh) H locs → lv_has ls 7 [(0, .ref (a 0)), (2, .int x2), (4, .int x4), (5, .int x5)] → W p l e (bw_rm 4 85) s m [.ref (a 0), .int p1].toArray below meth c H locs 0 0 Q (F0 m 59 ls [.int s0]) := by
    intro od om x2 x4 x5 s0 k15 hk15 k25 hk25 H locs ls h hI hl
    unfold jX6_layOrder_59 at h
    refine lv_istore (lv' := [(6, .int s0), (0, .ref (a 0)), (2, .int x2), (4, .int x4), (5, .int x5)]) hx hb dX6_layOrder_59 hl (by decide) rfl (fun ls hl => ?_)
    refine lv_iload hx hb dX6_layOrder_61 (lv_at hl 0 rfl) ?_
    refine lv_if_eq (tgt := 92) hx hb dX6_layOrder_63 (by decide) (fun c_63 => ?_) (fun c_63 => ?_)
    · rw [if_pos c_63] at h
      exact j92 od om x2 x4 x5 k15 hk15 k25 hk25 _ _ _ h hI (lv_sub hl [1,2,3,4] rfl)
    rw [if_neg c_63] at h
    refine lv_iload hx hb dX6_layOrder_66 (lv_at hl 3 rfl) ?_
    refine lv_iconst (v := (-1)) hx hb dX6_layOrder_68 rfl ?_
    refine lv_icmp_eq (tgt := 87) hx hb dX6_layOrder_69 (by decide) (fun c_69 => ?_) (fun c_69 => ?_)
    · rw [if_pos c_69] at h
      exact j87 od om x2 x5 k15 hk15 k25 hk25 _ _ _ h hI (lv_sub hl [1,2,4] rfl)
    rw [if_neg c_69] at h
    refine lv_aload_n hx hb dX6_layOrder_72 rfl (lv_at hl 1 rfl) ?_
    refine lv_iload hx hb dX6_layOrder_73 (lv_at hl 4 rfl) ?_
    obtain ⟨r75, hc, h⟩ := bw_b1_e h
    refine bw_callV S hK hZ hI (mX6_merit l G cy g a z rows asd sm buf bm th od om ow ca bo la pl to rd hh x5 r75 hc) Y_X6_merit V_X6_merit l_X6_77 ⟨(Nat.le_of_ble_eq_true rfl), (Nat.le_of_ble_eq_true rfl)⟩ (q0 := 0) rfl rfl rfl (ws' := (bw_mW cy a z rows asd sm buf bm th od om ow ca bo la pl to rd hh)) (bw_pS _) (bw_pS' _) rfl rfl hl.1 (rest := []) (st1 := [.int r75]) rfl rfl (Nat.le_of_ble_eq_true rfl) dX6_layOrder_75 ⟨(Nat.le_of_ble_eq_true rfl), (Nat.le_of_ble_eq_true rfl)⟩ (fun H locs hI => ?_)
    refine lv_aload_n hx hb dX6_layOrder_78 rfl (lv_at hl 1 rfl) ?_
    refine lv_iload hx hb dX6_layOrder_79 (lv_at hl 3 rfl) ?_
    obtain ⟨r81, hc, h⟩ := bw_b1_e h
    refine bw_callV S hK hZ hI (mX6_merit l G cy g a z rows asd sm buf bm th od om ow ca bo la pl to rd hh x4 r81 hc) Y_X6_merit V_X6_merit l_X6_77 ⟨(Nat.le_of_ble_eq_true rfl), (Nat.le_of_ble_eq_true rfl)⟩ (q0 := 0) rfl rfl rfl (ws' := (bw_mW cy a z rows asd sm buf bm th od om ow ca bo la pl to rd hh)) (bw_pS _) (bw_pS' _) rfl rfl hl.1 (rest := [.int r75]) (st1 := [.int r81, .int r75]) rfl rfl (Nat.le_of_ble_eq_true rfl) dX6_layOrder_81 ⟨(Nat.le_of_ble_eq_true rfl), (Nat.le_of_ble_eq_true rfl)⟩ (fun H locs hI => ?_)
    refine lv_icmp_le (tgt := 92) hx hb dX6_layOrder_84 (by decide) (fun c_84 => ?_) (fun c_84 => ?_)
    · rw [if_pos c_84] at h
      exact j92 od om x2 x4 x5 k15 hk15 k25 hk25 _ _ _ h hI (lv_sub hl [1,2,3,4] rfl)
    rw [if_neg c_84] at h
    exact j87 od om x2 x5 k15 hk15 k25 hk25 _ _ _ h hI (lv_sub hl [1,2,4] rfl)
  have j58 : ∀ (od : bw_A1) (om : Int32) (x2 : Int32) (x4 : Int32) (x5 : Int32) (k15 : bw_A1 → Int32 → Int32 → Int32 → Option (bw_A1 × Int32)) (hk15 : ∀ (H : Heap) (locs : List Loc) (ls : Array Slot) (od_ : bw_A1) (om_ : Int32) (x2_ : Int32) (x3_ : Int32), k15 od_ om_ x2_ x3_ = some (od', om') → bw_I G A s.heap (bw_mW cy a z rows asd sm buf bm th od_ om_ ow ca bo la pl to rd hh) H locs → lv_has ls 7 [(0, .ref (a 0)), (2, .int x2_), (3, .int x3_)] → W p l e (bw_rm 4 85) s m [.ref (a 0), .int p1].toArray below meth c H locs 0 0 Q (F0 m 15 ls [])) (k25 : Int32 → Int32 → Option (bw_A1 × Int32)) (hk25 : ∀ (H : Heap) (locs : List Loc) (ls : Array Slot) (x4_ : Int32) (x5_ : Int32), k25 x4_ x5_ = some (od', om') → bw_I G A s.heap (bw_mW cy a z rows asd sm buf bm th od om ow ca bo la pl to rd hh) H locs → lv_has ls 7 [(0, .ref (a 0)), (2, .int x2), (4, .int x4_), (5, .int x5_)] → W p l e (bw_rm 4 85) s m [.ref (a 0), .int p1].toArray below meth c H locs 0 0 Q (F0 m 25 ls [])) (H : Heap) (locs : List Loc) (ls : Array Slot), jX6_layOrder_58 k15 k25 z od om x2 x4 x5 = some (od', om') → bw_I G A s.heap (bw_mW cy a z rows asd sm buf bm th od om ow ca bo la pl to rd hh) H locs → lv_has ls 7 [(0, .ref (a 0)), (2, .int x2), (4, .int x4), (5, .int x5)] → W p l e (bw_rm 4 85) s m [.ref (a 0), .int p1].toArray below meth c H locs 0 0 Q (F0 m 58 ls []) := by
    intro od om x2 x4 x5 k15 hk15 k25 hk25 H locs ls h hI hl
    unfold jX6_layOrder_58 at h
    refine lv_iconst (v := 0) hx hb dX6_layOrder_58 rfl ?_
    exact j59 od om x2 x4 x5 0 k15 hk15 k25 hk25 _ _ _ h hI (lv_sub hl [0,1,2,3] rfl)
  have l25 : ∀ (od : bw_A1) (om : Int32) (x2 : Int32) (k15 : bw_A1 → Int32 → Int32 → Int32 → Option (bw_A1 × Int32)) (hk15 : ∀ (H : Heap) (locs : List Loc) (ls : Array Slot) (od_ : bw_A1) (om_ : Int32) (x2_ : Int32) (x3_ : Int32), k15 od_ om_ x2_ x3_ = some (od', om') → bw_I G A s.heap (bw_mW cy a z rows asd sm buf bm th od_ om_ ow ca bo la pl to rd hh) H locs → lv_has ls 7 [(0, .ref (a 0)), (2, .int x2_), (3, .int x3_)] → W p l e (bw_rm 4 85) s m [.ref (a 0), .int p1].toArray below meth c H locs 0 0 Q (F0 m 15 ls [])) (n : Nat) (H : Heap) (locs : List Loc) (ls : Array Slot) (x4 : Int32) (x5 : Int32), lX6_layOrder_25 k15 z od om x2 n x4 x5 = some (od', om') → bw_I G A s.heap (bw_mW cy a z rows asd sm buf bm th od om ow ca bo la pl to rd hh) H locs → lv_has ls 7 [(0, .ref (a 0)), (2, .int x2), (4, .int x4), (5, .int x5)] → W p l e (bw_rm 4 85) s m [.ref (a 0), .int p1].toArray below meth c H locs 0 0 Q (F0 m 25 ls []) := by
    intro od om x2 k15 hk15 n
    induction n with
    | zero => intro H locs ls x4 x5 h; exact bw_none h
    | succ n ih =>
      intro H locs ls x4 x5 h hI hl
      have h : bX6_layOrder_25 k15 (lX6_layOrder_25 k15 z od om x2 n) z od om x2 x4 x5 = some (od', om') := h
      unfold bX6_layOrder_25 at h
      refine lv_iload hx hb dX6_layOrder_25 (lv_at hl 3 rfl) ?_
      refine lv_aload_n hx hb dX6_layOrder_27 rfl (lv_at hl 0 rfl) ?_
      refine bw_get S hK hI 0 0 rfl rfl (by decide) i_X6 f_X6_7 rfl dX6_layOrder_28 ?_
      refine lv_iconst (v := 0) hx hb dX6_layOrder_31 rfl ?_
      obtain ⟨v32, hv, h⟩ := bw_b1_e h
      refine bw_iald hx hb hK hI 1 hv rfl dX6_layOrder_32 ?_
      refine lv_icmp_ge (tgt := 102) hx hb dX6_layOrder_33 (by decide) (fun c_33 => ?_) (fun c_33 => ?_)
      · rw [if_pos c_33] at h
        refine lv_iload hx hb dX6_layOrder_102 (lv_at hl 2 rfl) ?_
        refine lv_iconst (v := (-1)) hx hb dX6_layOrder_104 rfl ?_
        refine lv_icmp_eq (tgt := 112) hx hb dX6_layOrder_105 (by decide) (fun c_105 => ?_) (fun c_105 => ?_)
        · rw [if_pos c_105] at h
          refine lv_iconst (v := 0) hx hb dX6_layOrder_112 rfl ?_
          exact j113 od om x2 x4 0 k15 hk15 _ _ _ h hI (lv_sub hl [0,1,2] rfl)
        rw [if_neg c_105] at h
        refine lv_iconst (v := 1) hx hb dX6_layOrder_108 rfl ?_
        refine lv_goto (tgt := 113) hx hb dX6_layOrder_109 (by decide) ?_
        exact j113 od om x2 x4 1 k15 hk15 _ _ _ h hI (lv_sub hl [0,1,2] rfl)
      rw [if_neg c_33] at h
      refine lv_iload_n hx hb dX6_layOrder_36 rfl (lv_at hl 1 rfl) ?_
      refine lv_iload hx hb dX6_layOrder_37 (lv_at hl 3 rfl) ?_
      refine lv_ishr hx hb dX6_layOrder_39 ?_
      refine lv_iconst (v := 1) hx hb dX6_layOrder_40 rfl ?_
      refine lv_iand hx hb dX6_layOrder_41 ?_
      refine lv_if_ne (tgt := 58) hx hb dX6_layOrder_42 (by decide) (fun c_42 => ?_) (fun c_42 => ?_)
      · rw [if_neg c_42] at h
        exact j58 od om x2 x4 x5 k15 hk15 (lX6_layOrder_25 k15 z od om x2 n) ih _ _ _ h hI (lv_sub hl [0,1,2,3] rfl)
      rw [if_pos c_42] at h
      refine lv_aload_n hx hb dX6_layOrder_45 rfl (lv_at hl 0 rfl) ?_
      refine lv_iload hx hb dX6_layOrder_46 (lv_at hl 3 rfl) ?_
      obtain ⟨r48, hc, h⟩ := bw_b1_e h
      refine bw_callV S hK hZ hI (mX6_canLend l G cy g a z rows asd sm buf bm th od om ow ca bo la pl to rd hh x5 r48 hc) Y_X6_canLend V_X6_canLend l_X6_68 ⟨(Nat.le_of_ble_eq_true rfl), (Nat.le_of_ble_eq_true rfl)⟩ (q0 := 0) rfl rfl rfl (ws' := (bw_mW cy a z rows asd sm buf bm th od om ow ca bo la pl to rd hh)) (bw_pS _) (bw_pS' _) rfl rfl hl.1 (rest := []) (st1 := [.int r48]) rfl rfl (Nat.le_of_ble_eq_true rfl) dX6_layOrder_48 ⟨(Nat.le_of_ble_eq_true rfl), (Nat.le_of_ble_eq_true rfl)⟩ (fun H locs hI => ?_)
      refine lv_if_le (tgt := 58) hx hb dX6_layOrder_51 (by decide) (fun c_51 => ?_) (fun c_51 => ?_)
      · rw [if_pos c_51] at h
        exact j58 od om x2 x4 x5 k15 hk15 (lX6_layOrder_25 k15 z od om x2 n) ih _ _ _ h hI (lv_sub hl [0,1,2,3] rfl)
      rw [if_neg c_51] at h
      refine lv_iconst (v := 1) hx hb dX6_layOrder_54 rfl ?_
      refine lv_goto (tgt := 59) hx hb dX6_layOrder_55 (by decide) ?_
      exact j59 od om x2 x4 x5 1 k15 hk15 (lX6_layOrder_25 k15 z od om x2 n) ih _ _ _ h hI (lv_sub hl [0,1,2,3] rfl)
  have l15 : ∀  (n : Nat) (H : Heap) (locs : List Loc) (ls : Array Slot) (od : bw_A1) (om : Int32) (x2 : Int32) (x3 : Int32), lX6_layOrder_15 z n od om x2 x3 = some (od', om') → bw_I G A s.heap (bw_mW cy a z rows asd sm buf bm th od om ow ca bo la pl to rd hh) H locs → lv_has ls 7 [(0, .ref (a 0)), (2, .int x2), (3, .int x3)] → W p l e (bw_rm 4 85) s m [.ref (a 0), .int p1].toArray below meth c H locs 0 0 Q (F0 m 15 ls []) := by
    intro  n
    induction n with
    | zero => intro H locs ls od om x2 x3 h; exact bw_none h
    | succ n ih =>
      intro H locs ls od om x2 x3 h hI hl
      have h : bX6_layOrder_15  (lX6_layOrder_15 z n) z od om x2 x3 = some (od', om') := h
      unfold bX6_layOrder_15 at h
      refine lv_iload_n hx hb dX6_layOrder_15 rfl (lv_at hl 2 rfl) ?_
      refine lv_if_eq (tgt := 149) hx hb dX6_layOrder_16 (by decide) (fun c_16 => ?_) (fun c_16 => ?_)
      · rw [if_pos c_16] at h
        exact bw_vret (d := (od, om)) (rr := (od', om')) S hr hlocks h (fun q : (bw_A1 × Int32) => (bw_mW cy a z rows asd sm buf bm th q.1 q.2 ow ca bo la pl to rd hh)) hI dX6_layOrder_149 hQ
      rw [if_neg c_16] at h
      refine lv_iconst (v := (-1)) hx hb dX6_layOrder_19 rfl ?_
      refine lv_istore (lv' := [(4, .int (-1)), (0, .ref (a 0)), (2, .int x2), (3, .int x3)]) hx hb dX6_layOrder_20 hl (by decide) rfl (fun ls hl => ?_)
      refine lv_iconst (v := 0) hx hb dX6_layOrder_22 rfl ?_
      refine lv_istore (lv' := [(5, .int 0), (4, .int (-1)), (0, .ref (a 0)), (2, .int x2), (3, .int x3)]) hx hb dX6_layOrder_23 hl (by decide) rfl (fun ls hl => ?_)
      exact l25 od om x2 (lX6_layOrder_15 z n) ih bw_fu _ _ _ (-1) 0 h hI (lv_sub hl [2,3,1,0] rfl)
  unfold fX6_layOrder at h
  refine lv_iconst (v := 1) hx hb dX6_layOrder_0 rfl ?_
  refine lv_iload_n hx hb dX6_layOrder_1 rfl (lv_at hl 1 rfl) ?_
  refine lv_ishl hx hb dX6_layOrder_2 ?_
  refine lv_topi (fun x2_3 e_3 => ?_)
  have h := bw_let_e h e_3
  clear e_3
  refine lv_istore_n (lv' := [(2, .int x2_3), (0, .ref (a 0)), (1, .int p1)]) hx hb dX6_layOrder_3 rfl hl (by decide) rfl (fun ls hl => ?_)
  refine lv_aload_n hx hb dX6_layOrder_4 rfl (lv_at hl 1 rfl) ?_
  refine lv_iconst (v := 0) hx hb dX6_layOrder_5 rfl ?_
  refine bw_put S hK hI 0 8 (ws' := (bw_mW cy a z rows asd sm buf bm th od 0 ow ca bo la pl to rd hh)) tyX6 tyX6_ok nmX6 rfl rfl (by decide) i_X6 f_X6_74 rfl rfl rfl rfl (Nat.le_of_ble_eq_true rfl) rfl dX6_layOrder_6 (fun H locs hI => ?_)
  refine lv_aload_n hx hb dX6_layOrder_9 rfl (lv_at hl 1 rfl) ?_
  refine lv_iload_n hx hb dX6_layOrder_10 rfl (lv_at hl 2 rfl) ?_
  obtain ⟨r11, hc, h⟩ := bw_b1_e h
  refine bw_callV S hK hZ hI (mX6_isOpen l G cy g a z rows asd sm buf bm th od 0 ow ca bo la pl to rd hh p1 r11 hc) Y_X6_isOpen V_X6_isOpen l_X6_43 ⟨(Nat.le_of_ble_eq_true rfl), (Nat.le_of_ble_eq_true rfl)⟩ (q0 := 0) rfl rfl rfl (ws' := (bw_mW cy a z rows asd sm buf bm th od 0 ow ca bo la pl to rd hh)) (bw_pS _) (bw_pS' _) rfl rfl hl.1 (rest := []) (st1 := [.int r11]) rfl rfl (Nat.le_of_ble_eq_true rfl) dX6_layOrder_11 ⟨(Nat.le_of_ble_eq_true rfl), (Nat.le_of_ble_eq_true rfl)⟩ (fun H locs hI => ?_)
  refine lv_istore_n (lv' := [(3, .int r11), (2, .int x2_3), (0, .ref (a 0)), (1, .int p1)]) hx hb dX6_layOrder_14 rfl hl (by decide) rfl (fun ls hl => ?_)
  exact l15  bw_fu _ _ _ od 0 x2_3 r11 h hI (lv_sub hl [2,1,0] rfl)
