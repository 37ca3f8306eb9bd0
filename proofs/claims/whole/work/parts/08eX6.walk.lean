set_option maxHeartbeats 4000000 in
set_option maxRecDepth 100000 in
theorem mX6_digest (l : Launch) (G : va_G) (cy : Nat → ClassId) (g : Nat) (a : Nat → Nat) (z : bw_A1) (rows : bw_A1) (asd : bw_A1) (sm : Int32) (buf : bw_A1) (bm : Int32) (th : Int32) (od : bw_A1) (om : Int32) (ow : Int32) (ca : Int32) (bo : Int32) (la : Int32) (pl : Int32) (to : Int32) (rd : bw_A1) (hh : Int64) (r : Int64) (z' : bw_A1) (asd' : bw_A1) (th' : Int32) (od' : bw_A1) (om' : Int32) (ow' : Int32) (ca' : Int32) (bo' : Int32) (la' : Int32) (hh' : Int64) (h : fX6_digest z asd sm buf bm th od om ow ca bo la hh = some (r, z', asd', th', od', om', ow', ca', bo', la', hh')) : bw_M l yX6_digest cX6_digest 2 (some .long) 10 233 G cy g [.ref (a 0)] (bw_mW cy a z rows asd sm buf bm th od om ow ca bo la pl to rd hh) (some (.long r)) (bw_mW cy a z' rows asd' sm buf bm th' od' om' ow' ca' bo' la' pl to rd hh') := by
  refine bw_ofW (by decide +kernel) RX6 rfl (Nat.le_of_ble_eq_true rfl) ?_
  intro p e s m below meth c ls S hr hlocks hK hZ hI hl
  have hx := S.1
  have hb := S.2.1
  have hown := S.2.2.2.1
  have hts := S.2.2.2.2
  generalize va_A _ s.heap.size = A at hI hZ ⊢
  generalize hQ : MQ below _ _ s 0 0 A = Q
  have hl : lv_has ls 2 [(0, .ref (a 0))] := hl
  have l151 : ∀ (z : bw_A1) (asd : bw_A1) (th : Int32) (od : bw_A1) (om : Int32) (ow : Int32) (ca : Int32) (bo : Int32) (la : Int32) (n : Nat) (H : Heap) (locs : List Loc) (ls : Array Slot) (hh : Int64) (x1 : Int32), lX6_digest_151 z asd sm buf bm th od om ow ca bo la n hh x1 = some (r, z', asd', th', od', om', ow', ca', bo', la', hh') → bw_I G A s.heap (bw_mW cy a z rows asd sm buf bm th od om ow ca bo la pl to rd hh) H locs → lv_has ls 2 [(0, .ref (a 0)), (1, .int x1)] → W p l e (bw_rm 10 233) s m [.ref (a 0)].toArray below meth c H locs 0 0 Q (F0 m 151 ls []) := by
    intro z asd th od om ow ca bo la n
    induction n with
    | zero => intro H locs ls hh x1 h; exact bw_none h
    | succ n ih =>
      intro H locs ls hh x1 h hI hl
      have h : bX6_digest_151  (lX6_digest_151 z asd sm buf bm th od om ow ca bo la n) z asd sm buf bm th od om ow ca bo la hh x1 = some (r, z', asd', th', od', om', ow', ca', bo', la', hh') := h
      unfold bX6_digest_151 at h
      refine lv_iload_n hx hb dX6_digest_151 rfl (lv_at hl 1 rfl) ?_
      refine lv_aload_n hx hb dX6_digest_152 rfl (lv_at hl 0 rfl) ?_
      refine bw_get S hK hI 0 5 rfl rfl (by decide) i_X6 f_X6_141 rfl dX6_digest_153 ?_
      refine lv_icmp_ge (tgt := 176) hx hb dX6_digest_156 (by decide) (fun c_156 => ?_) (fun c_156 => ?_)
      · rw [if_pos c_156] at h
        refine lv_aload_n hx hb dX6_digest_176 rfl (lv_at hl 0 rfl) ?_
        refine bw_get S hK hI 0 16 rfl rfl (by decide) i_X6 f_X6_226 rfl dX6_digest_177 ?_
        exact bw_lret (d := (z, asd, th, od, om, ow, ca, bo, la, hh)) (rr := (r, z', asd', th', od', om', ow', ca', bo', la', hh')) S hr hlocks h (fun q : (bw_A1 × bw_A1 × Int32 × bw_A1 × Int32 × Int32 × Int32 × Int32 × Int32 × Int64) => (bw_mW cy a q.1 rows q.2.1 sm buf bm q.2.2.1 q.2.2.2.1 q.2.2.2.2.1 q.2.2.2.2.2.1 q.2.2.2.2.2.2.1 q.2.2.2.2.2.2.2.1 q.2.2.2.2.2.2.2.2.1 pl to rd q.2.2.2.2.2.2.2.2.2)) hI dX6_digest_180 hQ
      rw [if_neg c_156] at h
      refine lv_aload_n hx hb dX6_digest_159 rfl (lv_at hl 0 rfl) ?_
      refine lv_aload_n hx hb dX6_digest_160 rfl (lv_at hl 0 rfl) ?_
      refine bw_get S hK hI 0 4 rfl rfl (by decide) i_X6 f_X6_19 rfl dX6_digest_161 ?_
      refine lv_iload_n hx hb dX6_digest_164 rfl (lv_at hl 1 rfl) ?_
      obtain ⟨v165, hv, h⟩ := bw_b1_e h
      refine bw_iald hx hb hK hI 4 hv rfl dX6_digest_165 ?_
      refine lv_i2l hx hb dX6_digest_166 rfl ?_
      obtain ⟨hh_167, hc, h⟩ := bw_b1_e h
      refine bw_callV S hK hZ hI (mX6_mix l G cy g a z rows asd sm buf bm th od om ow ca bo la pl to rd hh (Int32.toInt64 v165) hh_167 hc) Y_X6_mix V_X6_mix l_X6_230 ⟨(Nat.le_of_ble_eq_true rfl), (Nat.le_of_ble_eq_true rfl)⟩ (q0 := 0) rfl rfl rfl (ws' := (bw_mW cy a z rows asd sm buf bm th od om ow ca bo la pl to rd hh_167)) (bw_pS _) (bw_pS' _) rfl rfl hl.1 (rest := []) (st1 := []) rfl rfl (Nat.le_of_ble_eq_true rfl) dX6_digest_167 ⟨(Nat.le_of_ble_eq_true rfl), (Nat.le_of_ble_eq_true rfl)⟩ (fun H locs hI => ?_)
      obtain ⟨x1_170, e_170⟩ : ∃ y : Int32, y = x1 + 1 := ⟨_, rfl⟩
      have h := bw_let_e h e_170
      refine lv_iinc (v := x1_170) (lv' := [(1, .int x1_170), (0, .ref (a 0))]) hx hb dX6_digest_170 hl (k := 1) rfl (by rw [e_170]; rfl) (by decide) rfl (fun ls hl => ?_)
      clear e_170
      refine lv_goto (tgt := 151) hx hb dX6_digest_173 (by decide) ?_
      exact ih _ _ _ hh_167 x1_170 h hI (lv_sub hl [1,0] rfl)
  have l87 : ∀ (z : bw_A1) (asd : bw_A1) (th : Int32) (od : bw_A1) (om : Int32) (ow : Int32) (ca : Int32) (bo : Int32) (la : Int32) (n : Nat) (H : Heap) (locs : List Loc) (ls : Array Slot) (hh : Int64) (x1 : Int32), lX6_digest_87 z asd sm buf bm th od om ow ca bo la n hh x1 = some (r, z', asd', th', od', om', ow', ca', bo', la', hh') → bw_I G A s.heap (bw_mW cy a z rows asd sm buf bm th od om ow ca bo la pl to rd hh) H locs → lv_has ls 2 [(0, .ref (a 0)), (1, .int x1)] → W p l e (bw_rm 10 233) s m [.ref (a 0)].toArray below meth c H locs 0 0 Q (F0 m 87 ls []) := by
    intro z asd th od om ow ca bo la n
    induction n with
    | zero => intro H locs ls hh x1 h; exact bw_none h
    | succ n ih =>
      intro H locs ls hh x1 h hI hl
      have h : bX6_digest_87  (lX6_digest_87 z asd sm buf bm th od om ow ca bo la n) z asd sm buf bm th od om ow ca bo la hh x1 = some (r, z', asd', th', od', om', ow', ca', bo', la', hh') := h
      unfold bX6_digest_87 at h
      refine lv_iload_n hx hb dX6_digest_87 rfl (lv_at hl 1 rfl) ?_
      refine lv_iconst (v := 3) hx hb dX6_digest_88 rfl ?_
      refine lv_aload_n hx hb dX6_digest_89 rfl (lv_at hl 0 rfl) ?_
      refine bw_get S hK hI 0 0 rfl rfl (by decide) i_X6 f_X6_7 rfl dX6_digest_90 ?_
      refine lv_iconst (v := 1) hx hb dX6_digest_93 rfl ?_
      obtain ⟨v94, hv, h⟩ := bw_b1_e h
      refine bw_iald hx hb hK hI 1 hv rfl dX6_digest_94 ?_
      refine lv_imul hx hb dX6_digest_95 ?_
      refine lv_icmp_ge (tgt := 120) hx hb dX6_digest_96 (by decide) (fun c_96 => ?_) (fun c_96 => ?_)
      · rw [if_pos c_96] at h
        refine lv_aload_n hx hb dX6_digest_120 rfl (lv_at hl 0 rfl) ?_
        refine lv_aload_n hx hb dX6_digest_121 rfl (lv_at hl 0 rfl) ?_
        obtain ⟨r122, z_122, asd_122, od_122, om_122, ow_122, ca_122, bo_122, la_122, hc, h⟩ := bw_b9_e h
        refine bw_callV S hK hZ hI (mX6_weakestOf l G cy g a z rows asd sm buf bm th od om ow ca bo la pl to rd hh r122 z_122 asd_122 od_122 om_122 ow_122 ca_122 bo_122 la_122 hc) Y_X6_weakestOf V_X6_weakestOf l_X6_211 ⟨(Nat.le_of_ble_eq_true rfl), (Nat.le_of_ble_eq_true rfl)⟩ (q0 := 0) rfl rfl rfl (ws' := (bw_mW cy a z_122 rows asd_122 sm buf bm th od_122 om_122 ow_122 ca_122 bo_122 la_122 pl to rd hh)) (bw_pS _) (bw_pS' _) rfl rfl hl.1 (rest := [.ref (a 0)]) (st1 := [.int r122, .ref (a 0)]) rfl rfl (Nat.le_of_ble_eq_true rfl) dX6_digest_122 ⟨(Nat.le_of_ble_eq_true rfl), (Nat.le_of_ble_eq_true rfl)⟩ (fun H locs hI => ?_)
        refine lv_i2l hx hb dX6_digest_125 rfl ?_
        obtain ⟨hh_126, hc, h⟩ := bw_b1_e h
        refine bw_callV S hK hZ hI (mX6_mix l G cy g a z_122 rows asd_122 sm buf bm th od_122 om_122 ow_122 ca_122 bo_122 la_122 pl to rd hh (Int32.toInt64 r122) hh_126 hc) Y_X6_mix V_X6_mix l_X6_230 ⟨(Nat.le_of_ble_eq_true rfl), (Nat.le_of_ble_eq_true rfl)⟩ (q0 := 0) rfl rfl rfl (ws' := (bw_mW cy a z_122 rows asd_122 sm buf bm th od_122 om_122 ow_122 ca_122 bo_122 la_122 pl to rd hh_126)) (bw_pS _) (bw_pS' _) rfl rfl hl.1 (rest := []) (st1 := []) rfl rfl (Nat.le_of_ble_eq_true rfl) dX6_digest_126 ⟨(Nat.le_of_ble_eq_true rfl), (Nat.le_of_ble_eq_true rfl)⟩ (fun H locs hI => ?_)
        refine lv_aload_n hx hb dX6_digest_129 rfl (lv_at hl 0 rfl) ?_
        refine lv_aload_n hx hb dX6_digest_130 rfl (lv_at hl 0 rfl) ?_
        obtain ⟨r131, hc, h⟩ := bw_b1_e h
        refine bw_callV S hK hZ hI (mX6_shareOf l G cy g a z_122 rows asd_122 sm buf bm th od_122 om_122 ow_122 ca_122 bo_122 la_122 pl to rd hh_126 r131 hc) Y_X6_shareOf V_X6_shareOf l_X6_220 ⟨(Nat.le_of_ble_eq_true rfl), (Nat.le_of_ble_eq_true rfl)⟩ (q0 := 0) rfl rfl rfl (ws' := (bw_mW cy a z_122 rows asd_122 sm buf bm th od_122 om_122 ow_122 ca_122 bo_122 la_122 pl to rd hh_126)) (bw_pS _) (bw_pS' _) rfl rfl hl.1 (rest := [.ref (a 0)]) (st1 := [.double r131, .ref (a 0)]) rfl rfl (Nat.le_of_ble_eq_true rfl) dX6_digest_131 ⟨(Nat.le_of_ble_eq_true rfl), (Nat.le_of_ble_eq_true rfl)⟩ (fun H locs hI => ?_)
        obtain ⟨r134, hc, h⟩ := bw_b1_e h
        refine bw_callP S hK hZ hI (mJxe99ae_doubleToLongBits_ccdee l G cy g r131 r134 hc) Y_Jxe99ae_doubleToLongBits_ccdee V_Jxe99ae_doubleToLongBits_ccdee l_X6_239 ⟨(Nat.le_of_ble_eq_true rfl), (Nat.le_of_ble_eq_true rfl)⟩ (rest := [.ref (a 0)]) (st1 := [.long r134, .ref (a 0)]) rfl hl.1 rfl rfl (Nat.le_of_ble_eq_true rfl) dX6_digest_134 ⟨(Nat.le_of_ble_eq_true rfl), (Nat.le_of_ble_eq_true rfl)⟩ (fun H locs hI => ?_)
        obtain ⟨hh_137, hc, h⟩ := bw_b1_e h
        refine bw_callV S hK hZ hI (mX6_mix l G cy g a z_122 rows asd_122 sm buf bm th od_122 om_122 ow_122 ca_122 bo_122 la_122 pl to rd hh_126 r134 hh_137 hc) Y_X6_mix V_X6_mix l_X6_230 ⟨(Nat.le_of_ble_eq_true rfl), (Nat.le_of_ble_eq_true rfl)⟩ (q0 := 0) rfl rfl rfl (ws' := (bw_mW cy a z_122 rows asd_122 sm buf bm th od_122 om_122 ow_122 ca_122 bo_122 la_122 pl to rd hh_137)) (bw_pS _) (bw_pS' _) rfl rfl hl.1 (rest := []) (st1 := []) rfl rfl (Nat.le_of_ble_eq_true rfl) dX6_digest_137 ⟨(Nat.le_of_ble_eq_true rfl), (Nat.le_of_ble_eq_true rfl)⟩ (fun H locs hI => ?_)
        refine lv_aload_n hx hb dX6_digest_140 rfl (lv_at hl 0 rfl) ?_
        refine lv_aload_n hx hb dX6_digest_141 rfl (lv_at hl 0 rfl) ?_
        refine bw_get S hK hI 0 5 rfl rfl (by decide) i_X6 f_X6_141 rfl dX6_digest_142 ?_
        refine lv_i2l hx hb dX6_digest_145 rfl ?_
        obtain ⟨hh_146, hc, h⟩ := bw_b1_e h
        refine bw_callV S hK hZ hI (mX6_mix l G cy g a z_122 rows asd_122 sm buf bm th od_122 om_122 ow_122 ca_122 bo_122 la_122 pl to rd hh_137 (Int32.toInt64 bm) hh_146 hc) Y_X6_mix V_X6_mix l_X6_230 ⟨(Nat.le_of_ble_eq_true rfl), (Nat.le_of_ble_eq_true rfl)⟩ (q0 := 0) rfl rfl rfl (ws' := (bw_mW cy a z_122 rows asd_122 sm buf bm th od_122 om_122 ow_122 ca_122 bo_122 la_122 pl to rd hh_146)) (bw_pS _) (bw_pS' _) rfl rfl hl.1 (rest := []) (st1 := []) rfl rfl (Nat.le_of_ble_eq_true rfl) dX6_digest_146 ⟨(Nat.le_of_ble_eq_true rfl), (Nat.le_of_ble_eq_true rfl)⟩ (fun H locs hI => ?_)
        refine lv_iconst (v := 0) hx hb dX6_digest_149 rfl ?_
        refine lv_istore_n (lv' := [(1, .int 0), (0, .ref (a 0))]) hx hb dX6_digest_150 rfl hl (by decide) rfl (fun ls hl => ?_)
        exact l151 z_122 asd_122 th od_122 om_122 ow_122 ca_122 bo_122 la_122 bw_fu _ _ _ hh_146 0 h hI (lv_sub hl [1,0] rfl)
      rw [if_neg c_96] at h
      refine lv_aload_n hx hb dX6_digest_99 rfl (lv_at hl 0 rfl) ?_
      refine lv_aload_n hx hb dX6_digest_100 rfl (lv_at hl 0 rfl) ?_
      refine bw_get S hK hI 0 0 rfl rfl (by decide) i_X6 f_X6_7 rfl dX6_digest_101 ?_
      refine lv_sipush (v := 354) hx hb dX6_digest_104 (by decide) ?_
      refine lv_iload_n hx hb dX6_digest_107 rfl (lv_at hl 1 rfl) ?_
      refine lv_iadd hx hb dX6_digest_108 ?_
      obtain ⟨v109, hv, h⟩ := bw_b1_e h
      refine bw_iald hx hb hK hI 1 hv rfl dX6_digest_109 ?_
      refine lv_i2l hx hb dX6_digest_110 rfl ?_
      obtain ⟨hh_111, hc, h⟩ := bw_b1_e h
      refine bw_callV S hK hZ hI (mX6_mix l G cy g a z rows asd sm buf bm th od om ow ca bo la pl to rd hh (Int32.toInt64 v109) hh_111 hc) Y_X6_mix V_X6_mix l_X6_230 ⟨(Nat.le_of_ble_eq_true rfl), (Nat.le_of_ble_eq_true rfl)⟩ (q0 := 0) rfl rfl rfl (ws' := (bw_mW cy a z rows asd sm buf bm th od om ow ca bo la pl to rd hh_111)) (bw_pS _) (bw_pS' _) rfl rfl hl.1 (rest := []) (st1 := []) rfl rfl (Nat.le_of_ble_eq_true rfl) dX6_digest_111 ⟨(Nat.le_of_ble_eq_true rfl), (Nat.le_of_ble_eq_true rfl)⟩ (fun H locs hI => ?_)
      obtain ⟨x1_114, e_114⟩ : ∃ y : Int32, y = x1 + 1 := ⟨_, rfl⟩
      have h := bw_let_e h e_114
      refine lv_iinc (v := x1_114) (lv' := [(1, .int x1_114), (0, .ref (a 0))]) hx hb dX6_digest_114 hl (k := 1) rfl (by rw [e_114]; rfl) (by decide) rfl (fun ls hl => ?_)
      clear e_114
      refine lv_goto (tgt := 87) hx hb dX6_digest_117 (by decide) ?_
      exact ih _ _ _ hh_111 x1_114 h hI (lv_sub hl [1,0] rfl)
  have l64 : ∀ (th : Int32) (n : Nat) (H : Heap) (locs : List Loc) (ls : Array Slot) (z : bw_A1) (asd : bw_A1) (od : bw_A1) (om : Int32) (ow : Int32) (ca : Int32) (bo : Int32) (la : Int32) (hh : Int64) (x1 : Int32), lX6_digest_64 sm buf bm th n z asd od om ow ca bo la hh x1 = some (r, z', asd', th', od', om', ow', ca', bo', la', hh') → bw_I G A s.heap (bw_mW cy a z rows asd sm buf bm th od om ow ca bo la pl to rd hh) H locs → lv_has ls 2 [(0, .ref (a 0)), (1, .int x1)] → W p l e (bw_rm 10 233) s m [.ref (a 0)].toArray below meth c H locs 0 0 Q (F0 m 64 ls []) := by
    intro th n
    induction n with
    | zero => intro H locs ls z asd od om ow ca bo la hh x1 h; exact bw_none h
    | succ n ih =>
      intro H locs ls z asd od om ow ca bo la hh x1 h hI hl
      have h : bX6_digest_64  (lX6_digest_64 sm buf bm th n) sm buf bm th z asd od om ow ca bo la hh x1 = some (r, z', asd', th', od', om', ow', ca', bo', la', hh') := h
      unfold bX6_digest_64 at h
      refine lv_iload_n hx hb dX6_digest_64 rfl (lv_at hl 1 rfl) ?_
      refine lv_aload_n hx hb dX6_digest_65 rfl (lv_at hl 0 rfl) ?_
      refine bw_get S hK hI 0 0 rfl rfl (by decide) i_X6 f_X6_7 rfl dX6_digest_66 ?_
      refine lv_iconst (v := 0) hx hb dX6_digest_69 rfl ?_
      obtain ⟨v70, hv, h⟩ := bw_b1_e h
      refine bw_iald hx hb hK hI 1 hv rfl dX6_digest_70 ?_
      refine lv_icmp_ge (tgt := 85) hx hb dX6_digest_71 (by decide) (fun c_71 => ?_) (fun c_71 => ?_)
      · rw [if_pos c_71] at h
        refine lv_iconst (v := 0) hx hb dX6_digest_85 rfl ?_
        refine lv_istore_n (lv' := [(1, .int 0), (0, .ref (a 0))]) hx hb dX6_digest_86 rfl hl (by decide) rfl (fun ls hl => ?_)
        exact l87 z asd th od om ow ca bo la bw_fu _ _ _ hh 0 h hI (lv_sub hl [1,0] rfl)
      rw [if_neg c_71] at h
      refine lv_aload_n hx hb dX6_digest_74 rfl (lv_at hl 0 rfl) ?_
      refine lv_iload_n hx hb dX6_digest_75 rfl (lv_at hl 1 rfl) ?_
      obtain ⟨z_76, asd_76, od_76, om_76, ow_76, ca_76, bo_76, la_76, hh_76, hc, h⟩ := bw_b9_e h
      refine bw_callV S hK hZ hI (mX6_mixProject l G cy g a z rows asd sm buf bm th od om ow ca bo la pl to rd hh x1 z_76 asd_76 od_76 om_76 ow_76 ca_76 bo_76 la_76 hh_76 hc) Y_X6_mixProject V_X6_mixProject l_X6_236 ⟨(Nat.le_of_ble_eq_true rfl), (Nat.le_of_ble_eq_true rfl)⟩ (q0 := 0) rfl rfl rfl (ws' := (bw_mW cy a z_76 rows asd_76 sm buf bm th od_76 om_76 ow_76 ca_76 bo_76 la_76 pl to rd hh_76)) (bw_pS _) (bw_pS' _) rfl rfl hl.1 (rest := []) (st1 := []) rfl rfl (Nat.le_of_ble_eq_true rfl) dX6_digest_76 ⟨(Nat.le_of_ble_eq_true rfl), (Nat.le_of_ble_eq_true rfl)⟩ (fun H locs hI => ?_)
      obtain ⟨x1_79, e_79⟩ : ∃ y : Int32, y = x1 + 1 := ⟨_, rfl⟩
      have h := bw_let_e h e_79
      refine lv_iinc (v := x1_79) (lv' := [(1, .int x1_79), (0, .ref (a 0))]) hx hb dX6_digest_79 hl (k := 1) rfl (by rw [e_79]; rfl) (by decide) rfl (fun ls hl => ?_)
      clear e_79
      refine lv_goto (tgt := 64) hx hb dX6_digest_82 (by decide) ?_
      exact ih _ _ _ z_76 asd_76 od_76 om_76 ow_76 ca_76 bo_76 la_76 hh_76 x1_79 h hI (lv_sub hl [1,0] rfl)
  have l38 : ∀ (z : bw_A1) (asd : bw_A1) (th : Int32) (od : bw_A1) (om : Int32) (ow : Int32) (ca : Int32) (bo : Int32) (la : Int32) (n : Nat) (H : Heap) (locs : List Loc) (ls : Array Slot) (hh : Int64) (x1 : Int32), lX6_digest_38 z asd sm buf bm th od om ow ca bo la n hh x1 = some (r, z', asd', th', od', om', ow', ca', bo', la', hh') → bw_I G A s.heap (bw_mW cy a z rows asd sm buf bm th od om ow ca bo la pl to rd hh) H locs → lv_has ls 2 [(0, .ref (a 0)), (1, .int x1)] → W p l e (bw_rm 10 233) s m [.ref (a 0)].toArray below meth c H locs 0 0 Q (F0 m 38 ls []) := by
    intro z asd th od om ow ca bo la n
    induction n with
    | zero => intro H locs ls hh x1 h; exact bw_none h
    | succ n ih =>
      intro H locs ls hh x1 h hI hl
      have h : bX6_digest_38  (lX6_digest_38 z asd sm buf bm th od om ow ca bo la n) z asd sm buf bm th od om ow ca bo la hh x1 = some (r, z', asd', th', od', om', ow', ca', bo', la', hh') := h
      unfold bX6_digest_38 at h
      refine lv_iload_n hx hb dX6_digest_38 rfl (lv_at hl 1 rfl) ?_
      refine lv_iconst (v := 3) hx hb dX6_digest_39 rfl ?_
      refine lv_icmp_ge (tgt := 62) hx hb dX6_digest_40 (by decide) (fun c_40 => ?_) (fun c_40 => ?_)
      · rw [if_pos c_40] at h
        refine lv_iconst (v := 0) hx hb dX6_digest_62 rfl ?_
        refine lv_istore_n (lv' := [(1, .int 0), (0, .ref (a 0))]) hx hb dX6_digest_63 rfl hl (by decide) rfl (fun ls hl => ?_)
        exact l64 th bw_fu _ _ _ z asd od om ow ca bo la hh 0 h hI (lv_sub hl [1,0] rfl)
      rw [if_neg c_40] at h
      refine lv_aload_n hx hb dX6_digest_43 rfl (lv_at hl 0 rfl) ?_
      refine lv_aload_n hx hb dX6_digest_44 rfl (lv_at hl 0 rfl) ?_
      refine bw_get S hK hI 0 0 rfl rfl (by decide) i_X6 f_X6_7 rfl dX6_digest_45 ?_
      refine lv_iconst (v := 3) hx hb dX6_digest_48 rfl ?_
      refine lv_iload_n hx hb dX6_digest_49 rfl (lv_at hl 1 rfl) ?_
      refine lv_iadd hx hb dX6_digest_50 ?_
      obtain ⟨v51, hv, h⟩ := bw_b1_e h
      refine bw_iald hx hb hK hI 1 hv rfl dX6_digest_51 ?_
      refine lv_i2l hx hb dX6_digest_52 rfl ?_
      obtain ⟨hh_53, hc, h⟩ := bw_b1_e h
      refine bw_callV S hK hZ hI (mX6_mix l G cy g a z rows asd sm buf bm th od om ow ca bo la pl to rd hh (Int32.toInt64 v51) hh_53 hc) Y_X6_mix V_X6_mix l_X6_230 ⟨(Nat.le_of_ble_eq_true rfl), (Nat.le_of_ble_eq_true rfl)⟩ (q0 := 0) rfl rfl rfl (ws' := (bw_mW cy a z rows asd sm buf bm th od om ow ca bo la pl to rd hh_53)) (bw_pS _) (bw_pS' _) rfl rfl hl.1 (rest := []) (st1 := []) rfl rfl (Nat.le_of_ble_eq_true rfl) dX6_digest_53 ⟨(Nat.le_of_ble_eq_true rfl), (Nat.le_of_ble_eq_true rfl)⟩ (fun H locs hI => ?_)
      obtain ⟨x1_56, e_56⟩ : ∃ y : Int32, y = x1 + 1 := ⟨_, rfl⟩
      have h := bw_let_e h e_56
      refine lv_iinc (v := x1_56) (lv' := [(1, .int x1_56), (0, .ref (a 0))]) hx hb dX6_digest_56 hl (k := 1) rfl (by rw [e_56]; rfl) (by decide) rfl (fun ls hl => ?_)
      clear e_56
      refine lv_goto (tgt := 38) hx hb dX6_digest_59 (by decide) ?_
      exact ih _ _ _ hh_53 x1_56 h hI (lv_sub hl [1,0] rfl)
  have l14 : ∀ (z : bw_A1) (asd : bw_A1) (th : Int32) (od : bw_A1) (om : Int32) (ow : Int32) (ca : Int32) (bo : Int32) (la : Int32) (n : Nat) (H : Heap) (locs : List Loc) (ls : Array Slot) (hh : Int64) (x1 : Int32), lX6_digest_14 z asd sm buf bm th od om ow ca bo la n hh x1 = some (r, z', asd', th', od', om', ow', ca', bo', la', hh') → bw_I G A s.heap (bw_mW cy a z rows asd sm buf bm th od om ow ca bo la pl to rd hh) H locs → lv_has ls 2 [(0, .ref (a 0)), (1, .int x1)] → W p l e (bw_rm 10 233) s m [.ref (a 0)].toArray below meth c H locs 0 0 Q (F0 m 14 ls []) := by
    intro z asd th od om ow ca bo la n
    induction n with
    | zero => intro H locs ls hh x1 h; exact bw_none h
    | succ n ih =>
      intro H locs ls hh x1 h hI hl
      have h : bX6_digest_14  (lX6_digest_14 z asd sm buf bm th od om ow ca bo la n) z asd sm buf bm th od om ow ca bo la hh x1 = some (r, z', asd', th', od', om', ow', ca', bo', la', hh') := h
      unfold bX6_digest_14 at h
      refine lv_iload_n hx hb dX6_digest_14 rfl (lv_at hl 1 rfl) ?_
      refine lv_bipush (v := 10) hx hb dX6_digest_15 (by decide) ?_
      refine lv_icmp_ge (tgt := 36) hx hb dX6_digest_17 (by decide) (fun c_17 => ?_) (fun c_17 => ?_)
      · rw [if_pos c_17] at h
        refine lv_iconst (v := 0) hx hb dX6_digest_36 rfl ?_
        refine lv_istore_n (lv' := [(1, .int 0), (0, .ref (a 0))]) hx hb dX6_digest_37 rfl hl (by decide) rfl (fun ls hl => ?_)
        exact l38 z asd th od om ow ca bo la bw_fu _ _ _ hh 0 h hI (lv_sub hl [1,0] rfl)
      rw [if_neg c_17] at h
      refine lv_aload_n hx hb dX6_digest_20 rfl (lv_at hl 0 rfl) ?_
      refine lv_aload_n hx hb dX6_digest_21 rfl (lv_at hl 0 rfl) ?_
      refine lv_iload_n hx hb dX6_digest_22 rfl (lv_at hl 1 rfl) ?_
      obtain ⟨r23, hc, h⟩ := bw_b1_e h
      refine bw_callV S hK hZ hI (mX6_counted l G cy g a z rows asd sm buf bm th od om ow ca bo la pl to rd hh x1 r23 hc) Y_X6_counted V_X6_counted l_X6_195 ⟨(Nat.le_of_ble_eq_true rfl), (Nat.le_of_ble_eq_true rfl)⟩ (q0 := 0) rfl rfl rfl (ws' := (bw_mW cy a z rows asd sm buf bm th od om ow ca bo la pl to rd hh)) (bw_pS _) (bw_pS' _) rfl rfl hl.1 (rest := [.ref (a 0)]) (st1 := [.int r23, .ref (a 0)]) rfl rfl (Nat.le_of_ble_eq_true rfl) dX6_digest_23 ⟨(Nat.le_of_ble_eq_true rfl), (Nat.le_of_ble_eq_true rfl)⟩ (fun H locs hI => ?_)
      refine lv_i2l hx hb dX6_digest_26 rfl ?_
      obtain ⟨hh_27, hc, h⟩ := bw_b1_e h
      refine bw_callV S hK hZ hI (mX6_mix l G cy g a z rows asd sm buf bm th od om ow ca bo la pl to rd hh (Int32.toInt64 r23) hh_27 hc) Y_X6_mix V_X6_mix l_X6_230 ⟨(Nat.le_of_ble_eq_true rfl), (Nat.le_of_ble_eq_true rfl)⟩ (q0 := 0) rfl rfl rfl (ws' := (bw_mW cy a z rows asd sm buf bm th od om ow ca bo la pl to rd hh_27)) (bw_pS _) (bw_pS' _) rfl rfl hl.1 (rest := []) (st1 := []) rfl rfl (Nat.le_of_ble_eq_true rfl) dX6_digest_27 ⟨(Nat.le_of_ble_eq_true rfl), (Nat.le_of_ble_eq_true rfl)⟩ (fun H locs hI => ?_)
      obtain ⟨x1_30, e_30⟩ : ∃ y : Int32, y = x1 + 1 := ⟨_, rfl⟩
      have h := bw_let_e h e_30
      refine lv_iinc (v := x1_30) (lv' := [(1, .int x1_30), (0, .ref (a 0))]) hx hb dX6_digest_30 hl (k := 1) rfl (by rw [e_30]; rfl) (by decide) rfl (fun ls hl => ?_)
      clear e_30
      refine lv_goto (tgt := 14) hx hb dX6_digest_33 (by decide) ?_
      exact ih _ _ _ hh_27 x1_30 h hI (lv_sub hl [1,0] rfl)
  unfold fX6_digest at h
  refine lv_aload_n hx hb dX6_digest_0 rfl (lv_at hl 0 rfl) ?_
  refine lv_iconst (v := 0) hx hb dX6_digest_1 rfl ?_
  refine bw_put S hK hI 0 6 (ws' := (bw_mW cy a z rows asd sm buf bm 0 od om ow ca bo la pl to rd hh)) tyX6 tyX6_ok nmX6 rfl rfl (by decide) i_X6 f_X6_28 rfl rfl rfl rfl (Nat.le_of_ble_eq_true rfl) rfl dX6_digest_2 (fun H locs hI => ?_)
  refine lv_aload_n hx hb dX6_digest_5 rfl (lv_at hl 0 rfl) ?_
  refine lv_ldc2 hx hb hown (hts _ (List.mem_cons_of_mem _ k_X6_234)) dX6_digest_6 ?_
  refine bw_put S hK hI 0 16 (ws' := (bw_mW cy a z rows asd sm buf bm 0 od om ow ca bo la pl to rd 2473)) tyX6 tyX6_ok nmX6 rfl rfl (by decide) i_X6 f_X6_226 rfl rfl rfl rfl (Nat.le_of_ble_eq_true rfl) rfl dX6_digest_9 (fun H locs hI => ?_)
  refine lv_iconst (v := 0) hx hb dX6_digest_12 rfl ?_
  refine lv_istore_n (lv' := [(1, .int 0), (0, .ref (a 0))]) hx hb dX6_digest_13 rfl hl (by decide) rfl (fun ls hl => ?_)
  exact l14 z asd 0 od om ow ca bo la bw_fu _ _ _ 2473 0 h hI (lv_sub hl [1,0] rfl)
