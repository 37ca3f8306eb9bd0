set_option maxHeartbeats 4000000 in
set_option maxRecDepth 100000 in
theorem mX6_tasks (l : Launch) (G : va_G) (cy : Nat → ClassId) (g : Nat) (a : Nat → Nat) (z : bw_A1) (rows : bw_A1) (asd : bw_A1) (sm : Int32) (buf : bw_A1) (bm : Int32) (th : Int32) (od : bw_A1) (om : Int32) (ow : Int32) (ca : Int32) (bo : Int32) (la : Int32) (pl : Int32) (to : Int32) (rd : bw_A1) (hh : Int64) (p1 : Int32) (r : Int32) (pl' : Int32) (rd' : bw_A1) (h : fX6_tasks buf bm pl rd p1 = some (r, pl', rd')) : bw_M l yX6_tasks cX6_tasks 5 (some .boolean) 2 48 G cy g [.ref (a 0), .int p1] (bw_mW cy a z rows asd sm buf bm th od om ow ca bo la pl to rd hh) (some (.int r)) (bw_mW cy a z rows asd sm buf bm th od om ow ca bo la pl' to rd' hh) := by
  refine bw_ofW (by decide +kernel) RX6 rfl (Nat.le_of_ble_eq_true rfl) ?_
  intro p e s m below meth c ls S hr hlocks hK hZ hI hl
  have hx := S.1
  have hb := S.2.1
  have hown := S.2.2.2.1
  have hts := S.2.2.2.2
  generalize va_A _ s.heap.size = A at hI hZ ⊢
  generalize hQ : MQ below _ _ s 0 0 A = Q
  have hl : lv_has ls 5 [(0, .ref (a 0)), (1, .int p1)] := hl
  have j104 : ∀ (pl : Int32) (rd : bw_A1) (x1 : Int32) (x3 : Int32) (s0 : Int32) (k13 : Int32 → bw_A1 → Int32 → Int32 → Option (Int32 × Int32 × bw_A1)) (hk13 : ∀ (H : Heap) (locs : List Loc) (ls : Array Slot) (pl_ : Int32) (rd_ : bw_A1) (x2_ : Int32) (x3_ : Int32), k13 pl_ rd_ x2_ x3_ = some (r, pl', rd') → bw_I G A s.heap (bw_mW cy a z rows asd sm buf bm th od om ow ca bo la pl_ to rd_ hh) H locs → lv_has ls 5 [(0, .ref (a 0)), (1, .int x1), (2, .int x2_), (3, .int x3_)] → W p l e (bw_rm 2 48) s m [.ref (a 0), .int p1].toArray below meth c H locs 0 0 Q (F0 m 13 ls [])) (H : Heap) (locs : List Loc) (ls : Array Slot), jX6_tasks_104 k13 buf bm pl rd x1 x3 s0 = some (r, pl', rd') → bw_I G A s.heap (bw_mW cy a z rows asd sm buf bm th od om ow ca bo la pl to rd hh) H locs → lv_has ls 5 [(0, .ref (a 0)), (1, .int x1), (3, .int x3)] → W p l e (bw_rm 2 48) s m [.ref (a 0), .int p1].toArray below meth c H locs 0 0 Q (F0 m 104 ls [.int s0]) := by
    intro pl rd x1 x3 s0 k13 hk13 H locs ls h hI hl
    unfold jX6_tasks_104 at h
    refine lv_istore_n (lv' := [(2, .int s0), (0, .ref (a 0)), (1, .int x1), (3, .int x3)]) hx hb dX6_tasks_104 rfl hl (by decide) rfl (fun ls hl => ?_)
    refine lv_goto (tgt := 13) hx hb dX6_tasks_105 (by decide) ?_
    exact hk13 _ _ _ pl rd s0 x3 h hI (lv_sub hl [1,2,0,3] rfl)
  have j103 : ∀ (pl : Int32) (rd : bw_A1) (x1 : Int32) (x3 : Int32) (k13 : Int32 → bw_A1 → Int32 → Int32 → Option (Int32 × Int32 × bw_A1)) (hk13 : ∀ (H : Heap) (locs : List Loc) (ls : Array Slot) (pl_ : Int32) (rd_ : bw_A1) (x2_ : Int32) (x3_ : Int32), k13 pl_ rd_ x2_ x3_ = some (r, pl', rd') → bw_I G A s.heap (bw_mW cy a z rows asd sm buf bm th od om ow ca bo la pl_ to rd_ hh) H locs → lv_has ls 5 [(0, .ref (a 0)), (1, .int x1), (2, .int x2_), (3, .int x3_)] → W p l e (bw_rm 2 48) s m [.ref (a 0), .int p1].toArray below meth c H locs 0 0 Q (F0 m 13 ls [])) (H : Heap) (locs : List Loc) (ls : Array Slot), jX6_tasks_103 k13 buf bm pl rd x1 x3 = some (r, pl', rd') → bw_I G A s.heap (bw_mW cy a z rows asd sm buf bm th od om ow ca bo la pl to rd hh) H locs → lv_has ls 5 [(0, .ref (a 0)), (1, .int x1), (3, .int x3)] → W p l e (bw_rm 2 48) s m [.ref (a 0), .int p1].toArray below meth c H locs 0 0 Q (F0 m 103 ls []) := by
    intro pl rd x1 x3 k13 hk13 H locs ls h hI hl
    unfold jX6_tasks_103 at h
    refine lv_iconst (v := 0) hx hb dX6_tasks_103 rfl ?_
    exact j104 pl rd x1 x3 0 k13 hk13 _ _ _ h hI (lv_sub hl [0,1,2] rfl)
  have j73 : ∀ (pl : Int32) (rd : bw_A1) (x1 : Int32) (x3 : Int32) (k13 : Int32 → bw_A1 → Int32 → Int32 → Option (Int32 × Int32 × bw_A1)) (hk13 : ∀ (H : Heap) (locs : List Loc) (ls : Array Slot) (pl_ : Int32) (rd_ : bw_A1) (x2_ : Int32) (x3_ : Int32), k13 pl_ rd_ x2_ x3_ = some (r, pl', rd') → bw_I G A s.heap (bw_mW cy a z rows asd sm buf bm th od om ow ca bo la pl_ to rd_ hh) H locs → lv_has ls 5 [(0, .ref (a 0)), (1, .int x1), (2, .int x2_), (3, .int x3_)] → W p l e (bw_rm 2 48) s m [.ref (a 0), .int p1].toArray below meth c H locs 0 0 Q (F0 m 13 ls [])) (H : Heap) (locs : List Loc) (ls : Array Slot), jX6_tasks_73 k13 buf bm pl rd x1 x3 = some (r, pl', rd') → bw_I G A s.heap (bw_mW cy a z rows asd sm buf bm th od om ow ca bo la pl to rd hh) H locs → lv_has ls 5 [(0, .ref (a 0)), (1, .int x1), (3, .int x3)] → W p l e (bw_rm 2 48) s m [.ref (a 0), .int p1].toArray below meth c H locs 0 0 Q (F0 m 73 ls []) := by
    intro pl rd x1 x3 k13 hk13 H locs ls h hI hl
    unfold jX6_tasks_73 at h
    refine lv_iload_n hx hb dX6_tasks_73 rfl (lv_at hl 2 rfl) ?_
    refine lv_if_eq (tgt := 103) hx hb dX6_tasks_74 (by decide) (fun c_74 => ?_) (fun c_74 => ?_)
    · rw [if_pos c_74] at h
      exact j103 pl rd x1 x3 k13 hk13 _ _ _ h hI (lv_sub hl [0,1,2] rfl)
    rw [if_neg c_74] at h
    refine lv_aload_n hx hb dX6_tasks_77 rfl (lv_at hl 0 rfl) ?_
    refine bw_get S hK hI 0 15 rfl rfl (by decide) i_X6 f_X6_25 rfl dX6_tasks_78 ?_
    refine lv_iload_n hx hb dX6_tasks_81 rfl (lv_at hl 1 rfl) ?_
    refine lv_iconst (v := 2) hx hb dX6_tasks_82 rfl ?_
    refine lv_iadd hx hb dX6_tasks_83 ?_
    obtain ⟨v84, hv, h⟩ := bw_b1_e h
    refine bw_iald hx hb hK hI 6 hv rfl dX6_tasks_84 ?_
    refine lv_bipush (v := 8) hx hb dX6_tasks_85 (by decide) ?_
    refine lv_icmp_ge (tgt := 103) hx hb dX6_tasks_87 (by decide) (fun c_87 => ?_) (fun c_87 => ?_)
    · rw [if_pos c_87] at h
      exact j103 pl rd x1 x3 k13 hk13 _ _ _ h hI (lv_sub hl [0,1,2] rfl)
    rw [if_neg c_87] at h
    refine lv_aload_n hx hb dX6_tasks_90 rfl (lv_at hl 0 rfl) ?_
    refine lv_bipush (v := 43) hx hb dX6_tasks_91 (by decide) ?_
    obtain ⟨r93, pl_93, hc, h⟩ := bw_b2_e h
    refine bw_callV S hK hZ hI (mX6_takes l G cy g a z rows asd sm buf bm th od om ow ca bo la pl to rd hh 43 r93 pl_93 hc) Y_X6_takes V_X6_takes l_X6_154 ⟨(Nat.le_of_ble_eq_true rfl), (Nat.le_of_ble_eq_true rfl)⟩ (q0 := 0) rfl rfl rfl (ws' := (bw_mW cy a z rows asd sm buf bm th od om ow ca bo la pl_93 to rd hh)) (bw_pS _) (bw_pS' _) rfl rfl hl.1 (rest := []) (st1 := [.int r93]) rfl rfl (Nat.le_of_ble_eq_true rfl) dX6_tasks_93 ⟨(Nat.le_of_ble_eq_true rfl), (Nat.le_of_ble_eq_true rfl)⟩ (fun H locs hI => ?_)
    refine lv_if_eq (tgt := 103) hx hb dX6_tasks_96 (by decide) (fun c_96 => ?_) (fun c_96 => ?_)
    · rw [if_pos c_96] at h
      exact j103 pl_93 rd x1 x3 k13 hk13 _ _ _ h hI (lv_sub hl [0,1,2] rfl)
    rw [if_neg c_96] at h
    refine lv_iconst (v := 1) hx hb dX6_tasks_99 rfl ?_
    refine lv_goto (tgt := 104) hx hb dX6_tasks_100 (by decide) ?_
    exact j104 pl_93 rd x1 x3 1 k13 hk13 _ _ _ h hI (lv_sub hl [0,1,2] rfl)
  have j37 : ∀ (pl : Int32) (rd : bw_A1) (x1 : Int32) (x4 : Int32) (s0 : Int32) (k13 : Int32 → bw_A1 → Int32 → Int32 → Option (Int32 × Int32 × bw_A1)) (hk13 : ∀ (H : Heap) (locs : List Loc) (ls : Array Slot) (pl_ : Int32) (rd_ : bw_A1) (x2_ : Int32) (x3_ : Int32), k13 pl_ rd_ x2_ x3_ = some (r, pl', rd') → bw_I G A s.heap (bw_mW cy a z rows asd sm buf bm th od om ow ca bo la pl_ to rd_ hh) H locs → lv_has ls 5 [(0, .ref (a 0)), (1, .int x1), (2, .int x2_), (3, .int x3_)] → W p l e (bw_rm 2 48) s m [.ref (a 0), .int p1].toArray below meth c H locs 0 0 Q (F0 m 13 ls [])) (H : Heap) (locs : List Loc) (ls : Array Slot), jX6_tasks_37 k13 buf bm pl rd x1 x4 s0 = some (r, pl', rd') → bw_I G A s.heap (bw_mW cy a z rows asd sm buf bm th od om ow ca bo la pl to rd hh) H locs → lv_has ls 5 [(0, .ref (a 0)), (1, .int x1), (4, .int x4)] → W p l e (bw_rm 2 48) s m [.ref (a 0), .int p1].toArray below meth c H locs 0 0 Q (F0 m 37 ls [.int s0]) := by
    intro pl rd x1 x4 s0 k13 hk13 H locs ls h hI hl
    unfold jX6_tasks_37 at h
    refine lv_istore_n (lv' := [(3, .int s0), (0, .ref (a 0)), (1, .int x1), (4, .int x4)]) hx hb dX6_tasks_37 rfl hl (by decide) rfl (fun ls hl => ?_)
    refine lv_iload_n hx hb dX6_tasks_38 rfl (lv_at hl 0 rfl) ?_
    refine lv_if_eq (tgt := 73) hx hb dX6_tasks_39 (by decide) (fun c_39 => ?_) (fun c_39 => ?_)
    · rw [if_pos c_39] at h
      exact j73 pl rd x1 s0 k13 hk13 _ _ _ h hI (lv_sub hl [1,2,0] rfl)
    rw [if_neg c_39] at h
    refine lv_aload_n hx hb dX6_tasks_42 rfl (lv_at hl 1 rfl) ?_
    refine bw_get S hK hI 0 15 rfl rfl (by decide) i_X6 f_X6_25 rfl dX6_tasks_43 ?_
    refine lv_iload_n hx hb dX6_tasks_46 rfl (lv_at hl 2 rfl) ?_
    refine lv_iconst (v := 3) hx hb dX6_tasks_47 rfl ?_
    refine lv_iadd hx hb dX6_tasks_48 ?_
    refine lv_aload_n hx hb dX6_tasks_49 rfl (lv_at hl 1 rfl) ?_
    refine bw_get S hK hI 0 15 rfl rfl (by decide) i_X6 f_X6_25 rfl dX6_tasks_50 ?_
    refine lv_iload_n hx hb dX6_tasks_53 rfl (lv_at hl 2 rfl) ?_
    refine lv_iconst (v := 2) hx hb dX6_tasks_54 rfl ?_
    refine lv_iadd hx hb dX6_tasks_55 ?_
    obtain ⟨v56, hv, h⟩ := bw_b1_e h
    refine bw_iald hx hb hK hI 6 hv rfl dX6_tasks_56 ?_
    refine lv_iadd hx hb dX6_tasks_57 ?_
    refine lv_iload hx hb dX6_tasks_58 (lv_at hl 3 rfl) ?_
    obtain ⟨rd_60, hv, h⟩ := bw_b1_e h
    refine bw_iast hx hb hK hI 6 (ws' := (bw_mW cy a z rows asd sm buf bm th od om ow ca bo la pl to rd_60 hh)) hv rfl rfl dX6_tasks_60 (fun H locs hI => ?_)
    refine lv_aload_n hx hb dX6_tasks_61 rfl (lv_at hl 1 rfl) ?_
    refine bw_get S hK hI 0 15 rfl rfl (by decide) i_X6 f_X6_25 rfl dX6_tasks_62 ?_
    refine lv_iload_n hx hb dX6_tasks_65 rfl (lv_at hl 2 rfl) ?_
    refine lv_iconst (v := 2) hx hb dX6_tasks_66 rfl ?_
    refine lv_iadd hx hb dX6_tasks_67 ?_
    refine lv_dup2_11 hx hb dX6_tasks_68 rfl rfl ?_
    obtain ⟨v69, hv, h⟩ := bw_b1_e h
    refine bw_iald hx hb hK hI 6 hv rfl dX6_tasks_69 ?_
    refine lv_iconst (v := 1) hx hb dX6_tasks_70 rfl ?_
    refine lv_iadd hx hb dX6_tasks_71 ?_
    obtain ⟨rd_72, hv, h⟩ := bw_b1_e h
    refine bw_iast hx hb hK hI 6 (ws' := (bw_mW cy a z rows asd sm buf bm th od om ow ca bo la pl to rd_72 hh)) hv rfl rfl dX6_tasks_72 (fun H locs hI => ?_)
    exact j73 pl rd_72 x1 s0 k13 hk13 _ _ _ h hI (lv_sub hl [1,2,0] rfl)
  have l13 : ∀ (x1 : Int32) (n : Nat) (H : Heap) (locs : List Loc) (ls : Array Slot) (pl : Int32) (rd : bw_A1) (x2 : Int32) (x3 : Int32), lX6_tasks_13 buf bm x1 n pl rd x2 x3 = some (r, pl', rd') → bw_I G A s.heap (bw_mW cy a z rows asd sm buf bm th od om ow ca bo la pl to rd hh) H locs → lv_has ls 5 [(0, .ref (a 0)), (1, .int x1), (2, .int x2), (3, .int x3)] → W p l e (bw_rm 2 48) s m [.ref (a 0), .int p1].toArray below meth c H locs 0 0 Q (F0 m 13 ls []) := by
    intro x1 n
    induction n with
    | zero => intro H locs ls pl rd x2 x3 h; exact bw_none h
    | succ n ih =>
      intro H locs ls pl rd x2 x3 h hI hl
      have h : bX6_tasks_13  (lX6_tasks_13 buf bm x1 n) buf bm x1 pl rd x2 x3 = some (r, pl', rd') := h
      unfold bX6_tasks_13 at h
      refine lv_iload_n hx hb dX6_tasks_13 rfl (lv_at hl 2 rfl) ?_
      refine lv_if_eq (tgt := 108) hx hb dX6_tasks_14 (by decide) (fun c_14 => ?_) (fun c_14 => ?_)
      · rw [if_pos c_14] at h
        refine lv_iload_n hx hb dX6_tasks_108 rfl (lv_at hl 3 rfl) ?_
        obtain ⟨h9, h⟩ := bw_bool_e h
        exact bw_iret (d := (pl, rd)) (rr := (r, pl', rd')) S hr hlocks h (fun q : (Int32 × bw_A1) => (bw_mW cy a z rows asd sm buf bm th od om ow ca bo la q.1 to q.2 hh)) hI h9 dX6_tasks_109 hQ
      rw [if_neg c_14] at h
      refine lv_aload_n hx hb dX6_tasks_17 rfl (lv_at hl 0 rfl) ?_
      refine lv_iconst (v := 1) hx hb dX6_tasks_18 rfl ?_
      refine lv_bipush (v := 60) hx hb dX6_tasks_19 (by decide) ?_
      obtain ⟨r21, pl_21, hc, h⟩ := bw_b2_e h
      refine bw_callV S hK hZ hI (mX6_number l G cy g a z rows asd sm buf bm th od om ow ca bo la pl to rd hh 1 60 r21 pl_21 hc) Y_X6_number V_X6_number l_X6_151 ⟨(Nat.le_of_ble_eq_true rfl), (Nat.le_of_ble_eq_true rfl)⟩ (q0 := 0) rfl rfl rfl (ws' := (bw_mW cy a z rows asd sm buf bm th od om ow ca bo la pl_21 to rd hh)) (bw_pS _) (bw_pS' _) rfl rfl hl.1 (rest := []) (st1 := [.int r21]) rfl rfl (Nat.le_of_ble_eq_true rfl) dX6_tasks_21 ⟨(Nat.le_of_ble_eq_true rfl), (Nat.le_of_ble_eq_true rfl)⟩ (fun H locs hI => ?_)
      refine lv_istore (lv' := [(4, .int r21), (0, .ref (a 0)), (1, .int x1), (2, .int x2), (3, .int x3)]) hx hb dX6_tasks_24 hl (by decide) rfl (fun ls hl => ?_)
      refine lv_iload hx hb dX6_tasks_26 (lv_at hl 0 rfl) ?_
      refine lv_iconst (v := (-1)) hx hb dX6_tasks_28 rfl ?_
      refine lv_icmp_eq (tgt := 36) hx hb dX6_tasks_29 (by decide) (fun c_29 => ?_) (fun c_29 => ?_)
      · rw [if_pos c_29] at h
        refine lv_iconst (v := 0) hx hb dX6_tasks_36 rfl ?_
        exact j37 pl_21 rd x1 r21 0 (lX6_tasks_13 buf bm x1 n) ih _ _ _ h hI (lv_sub hl [1,2,0] rfl)
      rw [if_neg c_29] at h
      refine lv_iconst (v := 1) hx hb dX6_tasks_32 rfl ?_
      refine lv_goto (tgt := 37) hx hb dX6_tasks_33 (by decide) ?_
      exact j37 pl_21 rd x1 r21 1 (lX6_tasks_13 buf bm x1 n) ih _ _ _ h hI (lv_sub hl [1,2,0] rfl)
  unfold fX6_tasks at h
  refine lv_aload_n hx hb dX6_tasks_0 rfl (lv_at hl 0 rfl) ?_
  refine bw_get S hK hI 0 15 rfl rfl (by decide) i_X6 f_X6_25 rfl dX6_tasks_1 ?_
  refine lv_iload_n hx hb dX6_tasks_4 rfl (lv_at hl 1 rfl) ?_
  refine lv_iconst (v := 2) hx hb dX6_tasks_5 rfl ?_
  refine lv_iadd hx hb dX6_tasks_6 ?_
  refine lv_iconst (v := 0) hx hb dX6_tasks_7 rfl ?_
  obtain ⟨rd_8, hv, h⟩ := bw_b1_e h
  refine bw_iast hx hb hK hI 6 (ws' := (bw_mW cy a z rows asd sm buf bm th od om ow ca bo la pl to rd_8 hh)) hv rfl rfl dX6_tasks_8 (fun H locs hI => ?_)
  refine lv_iconst (v := 1) hx hb dX6_tasks_9 rfl ?_
  refine lv_istore_n (lv' := [(2, .int 1), (0, .ref (a 0)), (1, .int p1)]) hx hb dX6_tasks_10 rfl hl (by decide) rfl (fun ls hl => ?_)
  refine lv_iconst (v := 1) hx hb dX6_tasks_11 rfl ?_
  refine lv_istore_n (lv' := [(3, .int 1), (2, .int 1), (0, .ref (a 0)), (1, .int p1)]) hx hb dX6_tasks_12 rfl hl (by decide) rfl (fun ls hl => ?_)
  exact l13 p1 bw_fu _ _ _ pl rd_8 1 1 h hI (lv_sub hl [2,3,1,0] rfl)
set_option maxHeartbeats 4000000 in
set_option maxRecDepth 100000 in
theorem mX6_readProject (l : Launch) (G : va_G) (cy : Nat → ClassId) (g : Nat) (a : Nat → Nat) (z : bw_A1) (rows : bw_A1) (asd : bw_A1) (sm : Int32) (buf : bw_A1) (bm : Int32) (th : Int32) (od : bw_A1) (om : Int32) (ow : Int32) (ca : Int32) (bo : Int32) (la : Int32) (pl : Int32) (to : Int32) (rd : bw_A1) (hh : Int64) (r : Int32) (pl' : Int32) (to' : Int32) (rd' : bw_A1) (h : fX6_readProject buf bm pl to rd = some (r, pl', to', rd')) : bw_M l yX6_readProject cX6_readProject 2 (some .boolean) 3 72 G cy g [.ref (a 0)] (bw_mW cy a z rows asd sm buf bm th od om ow ca bo la pl to rd hh) (some (.int r)) (bw_mW cy a z rows asd sm buf bm th od om ow ca bo la pl' to' rd' hh) := by
  refine bw_ofW (by decide +kernel) RX6 rfl (Nat.le_of_ble_eq_true rfl) ?_
  intro p e s m below meth c ls S hr hlocks hK hZ hI hl
  have hx := S.1
  have hb := S.2.1
  have hown := S.2.2.2.1
  have hts := S.2.2.2.2
  generalize va_A _ s.heap.size = A at hI hZ ⊢
  generalize hQ : MQ below _ _ s 0 0 A = Q
  have hl : lv_has ls 2 [(0, .ref (a 0))] := hl
  have j20 : ∀ (pl : Int32) (to : Int32) (rd : bw_A1) (s0 : Int32) (s1 : Int32) (H : Heap) (locs : List Loc) (ls : Array Slot), jX6_readProject_20 buf bm pl to rd s0 s1 = some (r, pl', to', rd') → bw_I G A s.heap (bw_mW cy a z rows asd sm buf bm th od om ow ca bo la pl to rd hh) H locs → lv_has ls 2 [(0, .ref (a 0))] → W p l e (bw_rm 3 72) s m [.ref (a 0)].toArray below meth c H locs 0 0 Q (F0 m 20 ls [.int s0, .int s1]) := by
    intro pl to rd s0 s1 H locs ls h hI hl
    unfold jX6_readProject_20 at h
    refine lv_imul hx hb dX6_readProject_20 ?_
    refine lv_topi (fun x1_21 e_21 => ?_)
    have h := bw_let_e h e_21
    clear e_21
    refine lv_istore_n (lv' := [(1, .int x1_21), (0, .ref (a 0))]) hx hb dX6_readProject_21 rfl hl (by decide) rfl (fun ls hl => ?_)
    refine lv_aload_n hx hb dX6_readProject_22 rfl (lv_at hl 1 rfl) ?_
    refine bw_get S hK hI 0 15 rfl rfl (by decide) i_X6 f_X6_25 rfl dX6_readProject_23 ?_
    refine lv_iload_n hx hb dX6_readProject_26 rfl (lv_at hl 0 rfl) ?_
    refine lv_aload_n hx hb dX6_readProject_27 rfl (lv_at hl 1 rfl) ?_
    refine lv_iconst (v := 1) hx hb dX6_readProject_28 rfl ?_
    refine lv_bipush (v := 9) hx hb dX6_readProject_29 (by decide) ?_
    obtain ⟨r31, pl_31, hc, h⟩ := bw_b2_e h
    refine bw_callV S hK hZ hI (mX6_number l G cy g a z rows asd sm buf bm th od om ow ca bo la pl to rd hh 1 9 r31 pl_31 hc) Y_X6_number V_X6_number l_X6_151 ⟨(Nat.le_of_ble_eq_true rfl), (Nat.le_of_ble_eq_true rfl)⟩ (q0 := 0) rfl rfl rfl (ws' := (bw_mW cy a z rows asd sm buf bm th od om ow ca bo la pl_31 to rd hh)) (bw_pS _) (bw_pS' _) rfl rfl hl.1 (rest := [.int x1_21, .ref (a 6)]) (st1 := [.int r31, .int x1_21, .ref (a 6)]) rfl rfl (Nat.le_of_ble_eq_true rfl) dX6_readProject_31 ⟨(Nat.le_of_ble_eq_true rfl), (Nat.le_of_ble_eq_true rfl)⟩ (fun H locs hI => ?_)
    obtain ⟨rd_34, hv, h⟩ := bw_b1_e h
    refine bw_iast hx hb hK hI 6 (ws' := (bw_mW cy a z rows asd sm buf bm th od om ow ca bo la pl_31 to rd_34 hh)) hv rfl rfl dX6_readProject_34 (fun H locs hI => ?_)
    refine lv_aload_n hx hb dX6_readProject_35 rfl (lv_at hl 1 rfl) ?_
    refine bw_get S hK hI 0 15 rfl rfl (by decide) i_X6 f_X6_25 rfl dX6_readProject_36 ?_
    refine lv_iload_n hx hb dX6_readProject_39 rfl (lv_at hl 0 rfl) ?_
    obtain ⟨v40, hv, h⟩ := bw_b1_e h
    refine bw_iald hx hb hK hI 6 hv rfl dX6_readProject_40 ?_
    refine lv_iconst (v := (-1)) hx hb dX6_readProject_41 rfl ?_
    refine lv_icmp_eq (tgt := 54) hx hb dX6_readProject_42 (by decide) (fun c_42 => ?_) (fun c_42 => ?_)
    · rw [if_pos c_42] at h
      refine lv_iconst (v := 0) hx hb dX6_readProject_54 rfl ?_
      exact bw_iret (d := (pl_31, to, rd_34)) (rr := (r, pl', to', rd')) S hr hlocks h (fun q : (Int32 × Int32 × bw_A1) => (bw_mW cy a z rows asd sm buf bm th od om ow ca bo la q.1 q.2.1 q.2.2 hh)) hI rfl dX6_readProject_55 hQ
    rw [if_neg c_42] at h
    refine lv_aload_n hx hb dX6_readProject_45 rfl (lv_at hl 1 rfl) ?_
    refine lv_bipush (v := 58) hx hb dX6_readProject_46 (by decide) ?_
    obtain ⟨r48, pl_48, hc, h⟩ := bw_b2_e h
    refine bw_callV S hK hZ hI (mX6_takes l G cy g a z rows asd sm buf bm th od om ow ca bo la pl_31 to rd_34 hh 58 r48 pl_48 hc) Y_X6_takes V_X6_takes l_X6_154 ⟨(Nat.le_of_ble_eq_true rfl), (Nat.le_of_ble_eq_true rfl)⟩ (q0 := 0) rfl rfl rfl (ws' := (bw_mW cy a z rows asd sm buf bm th od om ow ca bo la pl_48 to rd_34 hh)) (bw_pS _) (bw_pS' _) rfl rfl hl.1 (rest := []) (st1 := [.int r48]) rfl rfl (Nat.le_of_ble_eq_true rfl) dX6_readProject_48 ⟨(Nat.le_of_ble_eq_true rfl), (Nat.le_of_ble_eq_true rfl)⟩ (fun H locs hI => ?_)
    refine lv_if_ne (tgt := 56) hx hb dX6_readProject_51 (by decide) (fun c_51 => ?_) (fun c_51 => ?_)
    · rw [if_neg c_51] at h
      refine lv_aload_n hx hb dX6_readProject_56 rfl (lv_at hl 1 rfl) ?_
      refine bw_get S hK hI 0 15 rfl rfl (by decide) i_X6 f_X6_25 rfl dX6_readProject_57 ?_
      refine lv_iload_n hx hb dX6_readProject_60 rfl (lv_at hl 0 rfl) ?_
      refine lv_iconst (v := 1) hx hb dX6_readProject_61 rfl ?_
      refine lv_iadd hx hb dX6_readProject_62 ?_
      refine lv_aload_n hx hb dX6_readProject_63 rfl (lv_at hl 1 rfl) ?_
      refine lv_iconst (v := 0) hx hb dX6_readProject_64 rfl ?_
      refine lv_bipush (v := 99) hx hb dX6_readProject_65 (by decide) ?_
      obtain ⟨r67, pl_67, hc, h⟩ := bw_b2_e h
      refine bw_callV S hK hZ hI (mX6_number l G cy g a z rows asd sm buf bm th od om ow ca bo la pl_48 to rd_34 hh 0 99 r67 pl_67 hc) Y_X6_number V_X6_number l_X6_151 ⟨(Nat.le_of_ble_eq_true rfl), (Nat.le_of_ble_eq_true rfl)⟩ (q0 := 0) rfl rfl rfl (ws' := (bw_mW cy a z rows asd sm buf bm th od om ow ca bo la pl_67 to rd_34 hh)) (bw_pS _) (bw_pS' _) rfl rfl hl.1 (rest := [.int (x1_21 + 1), .ref (a 6)]) (st1 := [.int r67, .int (x1_21 + 1), .ref (a 6)]) rfl rfl (Nat.le_of_ble_eq_true rfl) dX6_readProject_67 ⟨(Nat.le_of_ble_eq_true rfl), (Nat.le_of_ble_eq_true rfl)⟩ (fun H locs hI => ?_)
      obtain ⟨rd_70, hv, h⟩ := bw_b1_e h
      refine bw_iast hx hb hK hI 6 (ws' := (bw_mW cy a z rows asd sm buf bm th od om ow ca bo la pl_67 to rd_70 hh)) hv rfl rfl dX6_readProject_70 (fun H locs hI => ?_)
      refine lv_aload_n hx hb dX6_readProject_71 rfl (lv_at hl 1 rfl) ?_
      refine bw_get S hK hI 0 15 rfl rfl (by decide) i_X6 f_X6_25 rfl dX6_readProject_72 ?_
      refine lv_iload_n hx hb dX6_readProject_75 rfl (lv_at hl 0 rfl) ?_
      refine lv_iconst (v := 1) hx hb dX6_readProject_76 rfl ?_
      refine lv_iadd hx hb dX6_readProject_77 ?_
      obtain ⟨v78, hv, h⟩ := bw_b1_e h
      refine bw_iald hx hb hK hI 6 hv rfl dX6_readProject_78 ?_
      refine lv_iconst (v := (-1)) hx hb dX6_readProject_79 rfl ?_
      refine lv_icmp_eq (tgt := 92) hx hb dX6_readProject_80 (by decide) (fun c_80 => ?_) (fun c_80 => ?_)
      · rw [if_pos c_80] at h
        refine lv_iconst (v := 0) hx hb dX6_readProject_92 rfl ?_
        exact bw_iret (d := (pl_67, to, rd_70)) (rr := (r, pl', to', rd')) S hr hlocks h (fun q : (Int32 × Int32 × bw_A1) => (bw_mW cy a z rows asd sm buf bm th od om ow ca bo la q.1 q.2.1 q.2.2 hh)) hI rfl dX6_readProject_93 hQ
      rw [if_neg c_80] at h
      refine lv_aload_n hx hb dX6_readProject_83 rfl (lv_at hl 1 rfl) ?_
      refine lv_bipush (v := 58) hx hb dX6_readProject_84 (by decide) ?_
      obtain ⟨r86, pl_86, hc, h⟩ := bw_b2_e h
      refine bw_callV S hK hZ hI (mX6_takes l G cy g a z rows asd sm buf bm th od om ow ca bo la pl_67 to rd_70 hh 58 r86 pl_86 hc) Y_X6_takes V_X6_takes l_X6_154 ⟨(Nat.le_of_ble_eq_true rfl), (Nat.le_of_ble_eq_true rfl)⟩ (q0 := 0) rfl rfl rfl (ws' := (bw_mW cy a z rows asd sm buf bm th od om ow ca bo la pl_86 to rd_70 hh)) (bw_pS _) (bw_pS' _) rfl rfl hl.1 (rest := []) (st1 := [.int r86]) rfl rfl (Nat.le_of_ble_eq_true rfl) dX6_readProject_86 ⟨(Nat.le_of_ble_eq_true rfl), (Nat.le_of_ble_eq_true rfl)⟩ (fun H locs hI => ?_)
      refine lv_if_ne (tgt := 94) hx hb dX6_readProject_89 (by decide) (fun c_89 => ?_) (fun c_89 => ?_)
      · rw [if_neg c_89] at h
        refine lv_aload_n hx hb dX6_readProject_94 rfl (lv_at hl 1 rfl) ?_
        refine lv_dup hx hb dX6_readProject_95 rfl ?_
        refine bw_get S hK hI 0 14 rfl rfl (by decide) i_X6 f_X6_157 rfl dX6_readProject_96 ?_
        refine lv_iconst (v := 1) hx hb dX6_readProject_99 rfl ?_
        refine lv_iadd hx hb dX6_readProject_100 ?_
        refine lv_topi (fun to_101 e_101 => ?_)
        have h := bw_let_e h e_101
        clear e_101
        refine bw_put S hK hI 0 14 (ws' := (bw_mW cy a z rows asd sm buf bm th od om ow ca bo la pl_86 to_101 rd_70 hh)) tyX6 tyX6_ok nmX6 rfl rfl (by decide) i_X6 f_X6_157 rfl rfl rfl rfl (Nat.le_of_ble_eq_true rfl) rfl dX6_readProject_101 (fun H locs hI => ?_)
        refine lv_aload_n hx hb dX6_readProject_104 rfl (lv_at hl 1 rfl) ?_
        refine lv_iload_n hx hb dX6_readProject_105 rfl (lv_at hl 0 rfl) ?_
        obtain ⟨r106, pl_106, rd_106, hc, h⟩ := bw_b3_e h
        refine bw_callV S hK hZ hI (mX6_tasks l G cy g a z rows asd sm buf bm th od om ow ca bo la pl_86 to_101 rd_70 hh x1_21 r106 pl_106 rd_106 hc) Y_X6_tasks V_X6_tasks l_X6_160 ⟨(Nat.le_of_ble_eq_true rfl), (Nat.le_of_ble_eq_true rfl)⟩ (q0 := 0) rfl rfl rfl (ws' := (bw_mW cy a z rows asd sm buf bm th od om ow ca bo la pl_106 to_101 rd_106 hh)) (bw_pS _) (bw_pS' _) rfl rfl hl.1 (rest := []) (st1 := [.int r106]) rfl rfl (Nat.le_of_ble_eq_true rfl) dX6_readProject_106 ⟨(Nat.le_of_ble_eq_true rfl), (Nat.le_of_ble_eq_true rfl)⟩ (fun H locs hI => ?_)
        obtain ⟨h9, h⟩ := bw_bool_e h
        exact bw_iret (d := (pl_106, to_101, rd_106)) (rr := (r, pl', to', rd')) S hr hlocks h (fun q : (Int32 × Int32 × bw_A1) => (bw_mW cy a z rows asd sm buf bm th od om ow ca bo la q.1 q.2.1 q.2.2 hh)) hI h9 dX6_readProject_109 hQ
      rw [if_pos c_89] at h
      refine lv_iconst (v := 0) hx hb dX6_readProject_92 rfl ?_
      exact bw_iret (d := (pl_86, to, rd_70)) (rr := (r, pl', to', rd')) S hr hlocks h (fun q : (Int32 × Int32 × bw_A1) => (bw_mW cy a z rows asd sm buf bm th od om ow ca bo la q.1 q.2.1 q.2.2 hh)) hI rfl dX6_readProject_93 hQ
    rw [if_pos c_51] at h
    refine lv_iconst (v := 0) hx hb dX6_readProject_54 rfl ?_
    exact bw_iret (d := (pl_48, to, rd_34)) (rr := (r, pl', to', rd')) S hr hlocks h (fun q : (Int32 × Int32 × bw_A1) => (bw_mW cy a z rows asd sm buf bm th od om ow ca bo la q.1 q.2.1 q.2.2 hh)) hI rfl dX6_readProject_55 hQ
  unfold fX6_readProject at h
  refine lv_bipush (v := 11) hx hb dX6_readProject_0 (by decide) ?_
  refine lv_aload_n hx hb dX6_readProject_2 rfl (lv_at hl 0 rfl) ?_
  refine bw_get S hK hI 0 14 rfl rfl (by decide) i_X6 f_X6_157 rfl dX6_readProject_3 ?_
  refine lv_bipush (v := 9) hx hb dX6_readProject_6 (by decide) ?_
  refine lv_icmp_ge (tgt := 18) hx hb dX6_readProject_8 (by decide) (fun c_8 => ?_) (fun c_8 => ?_)
  · rw [if_pos c_8] at h
    refine lv_bipush (v := 9) hx hb dX6_readProject_18 (by decide) ?_
    exact j20 pl to rd 9 11 _ _ _ h hI (lv_sub hl [0] rfl)
  rw [if_neg c_8] at h
  refine lv_aload_n hx hb dX6_readProject_11 rfl (lv_at hl 0 rfl) ?_
  refine bw_get S hK hI 0 14 rfl rfl (by decide) i_X6 f_X6_157 rfl dX6_readProject_12 ?_
  refine lv_goto (tgt := 20) hx hb dX6_readProject_15 (by decide) ?_
  exact j20 pl to rd to 11 _ _ _ h hI (lv_sub hl [0] rfl)
set_option maxHeartbeats 4000000 in
set_option maxRecDepth 100000 in
theorem mX6_isPlan (l : Launch) (G : va_G) (cy : Nat → ClassId) (g : Nat) (a : Nat → Nat) (z : bw_A1) (rows : bw_A1) (asd : bw_A1) (sm : Int32) (buf : bw_A1) (bm : Int32) (th : Int32) (od : bw_A1) (om : Int32) (ow : Int32) (ca : Int32) (bo : Int32) (la : Int32) (pl : Int32) (to : Int32) (rd : bw_A1) (hh : Int64) (r : Int32) (pl' : Int32) (to' : Int32) (rd' : bw_A1) (h : fX6_isPlan buf bm pl to rd = some (r, pl', to', rd')) : bw_M l yX6_isPlan cX6_isPlan 2 (some .boolean) 4 93 G cy g [.ref (a 0)] (bw_mW cy a z rows asd sm buf bm th od om ow ca bo la pl to rd hh) (some (.int r)) (bw_mW cy a z rows asd sm buf bm th od om ow ca bo la pl' to' rd' hh) := by
  refine bw_ofW (by decide +kernel) RX6 rfl (Nat.le_of_ble_eq_true rfl) ?_
  intro p e s m below meth c ls S hr hlocks hK hZ hI hl
  have hx := S.1
  have hb := S.2.1
  have hown := S.2.2.2.1
  have hts := S.2.2.2.2
  generalize va_A _ s.heap.size = A at hI hZ ⊢
  generalize hQ : MQ below _ _ s 0 0 A = Q
  have hl : lv_has ls 2 [(0, .ref (a 0))] := hl
  have j55 : ∀ (pl : Int32) (to : Int32) (rd : bw_A1) (H : Heap) (locs : List Loc) (ls : Array Slot), jX6_isPlan_55 buf bm pl to rd = some (r, pl', to', rd') → bw_I G A s.heap (bw_mW cy a z rows asd sm buf bm th od om ow ca bo la pl to rd hh) H locs → lv_has ls 2 [] → W p l e (bw_rm 4 93) s m [.ref (a 0)].toArray below meth c H locs 0 0 Q (F0 m 55 ls []) := by
    intro pl to rd H locs ls h hI hl
    unfold jX6_isPlan_55 at h
    refine lv_iconst (v := 0) hx hb dX6_isPlan_55 rfl ?_
    exact bw_iret (d := (pl, to, rd)) (rr := (r, pl', to', rd')) S hr hlocks h (fun q : (Int32 × Int32 × bw_A1) => (bw_mW cy a z rows asd sm buf bm th od om ow ca bo la q.1 q.2.1 q.2.2 hh)) hI rfl dX6_isPlan_56 hQ
  have j36 : ∀ (pl : Int32) (to : Int32) (rd : bw_A1) (x1 : Int32) (H : Heap) (locs : List Loc) (ls : Array Slot), jX6_isPlan_36 buf bm pl to rd x1 = some (r, pl', to', rd') → bw_I G A s.heap (bw_mW cy a z rows asd sm buf bm th od om ow ca bo la pl to rd hh) H locs → lv_has ls 2 [(0, .ref (a 0)), (1, .int x1)] → W p l e (bw_rm 4 93) s m [.ref (a 0)].toArray below meth c H locs 0 0 Q (F0 m 36 ls []) := by
    intro pl to rd x1 H locs ls h hI hl
    unfold jX6_isPlan_36 at h
    refine lv_iload_n hx hb dX6_isPlan_36 rfl (lv_at hl 1 rfl) ?_
    refine lv_if_eq (tgt := 55) hx hb dX6_isPlan_37 (by decide) (fun c_37 => ?_) (fun c_37 => ?_)
    · rw [if_pos c_37] at h
      exact j55 pl to rd _ _ _ h hI (lv_sub hl [] rfl)
    rw [if_neg c_37] at h
    refine lv_aload_n hx hb dX6_isPlan_40 rfl (lv_at hl 0 rfl) ?_
    refine bw_get S hK hI 0 13 rfl rfl (by decide) i_X6 f_X6_144 rfl dX6_isPlan_41 ?_
    refine lv_aload_n hx hb dX6_isPlan_44 rfl (lv_at hl 0 rfl) ?_
    refine bw_get S hK hI 0 5 rfl rfl (by decide) i_X6 f_X6_141 rfl dX6_isPlan_45 ?_
    refine lv_icmp_ne (tgt := 55) hx hb dX6_isPlan_48 (by decide) (fun c_48 => ?_) (fun c_48 => ?_)
    · rw [if_neg c_48] at h
      exact j55 pl to rd _ _ _ h hI (lv_sub hl [] rfl)
    rw [if_pos c_48] at h
    refine lv_iconst (v := 1) hx hb dX6_isPlan_51 rfl ?_
    refine lv_goto (tgt := 56) hx hb dX6_isPlan_52 (by decide) ?_
    exact bw_iret (d := (pl, to, rd)) (rr := (r, pl', to', rd')) S hr hlocks h (fun q : (Int32 × Int32 × bw_A1) => (bw_mW cy a z rows asd sm buf bm th od om ow ca bo la q.1 q.2.1 q.2.2 hh)) hI rfl dX6_isPlan_56 hQ
  have l15 : ∀  (n : Nat) (H : Heap) (locs : List Loc) (ls : Array Slot) (pl : Int32) (to : Int32) (rd : bw_A1) (x1 : Int32), lX6_isPlan_15 buf bm n pl to rd x1 = some (r, pl', to', rd') → bw_I G A s.heap (bw_mW cy a z rows asd sm buf bm th od om ow ca bo la pl to rd hh) H locs → lv_has ls 2 [(0, .ref (a 0)), (1, .int x1)] → W p l e (bw_rm 4 93) s m [.ref (a 0)].toArray below meth c H locs 0 0 Q (F0 m 15 ls []) := by
    intro  n
    induction n with
    | zero => intro H locs ls pl to rd x1 h; exact bw_none h
    | succ n ih =>
      intro H locs ls pl to rd x1 h hI hl
      have h : bX6_isPlan_15  (lX6_isPlan_15 buf bm n) buf bm pl to rd x1 = some (r, pl', to', rd') := h
      unfold bX6_isPlan_15 at h
      refine lv_iload_n hx hb dX6_isPlan_15 rfl (lv_at hl 1 rfl) ?_
      refine lv_if_eq (tgt := 36) hx hb dX6_isPlan_16 (by decide) (fun c_16 => ?_) (fun c_16 => ?_)
      · rw [if_pos c_16] at h
        exact j36 pl to rd x1 _ _ _ h hI (lv_sub hl [0,1] rfl)
      rw [if_neg c_16] at h
      refine lv_aload_n hx hb dX6_isPlan_19 rfl (lv_at hl 0 rfl) ?_
      refine lv_bipush (v := 59) hx hb dX6_isPlan_20 (by decide) ?_
      obtain ⟨r22, pl_22, hc, h⟩ := bw_b2_e h
      refine bw_callV S hK hZ hI (mX6_takes l G cy g a z rows asd sm buf bm th od om ow ca bo la pl to rd hh 59 r22 pl_22 hc) Y_X6_takes V_X6_takes l_X6_154 ⟨(Nat.le_of_ble_eq_true rfl), (Nat.le_of_ble_eq_true rfl)⟩ (q0 := 0) rfl rfl rfl (ws' := (bw_mW cy a z rows asd sm buf bm th od om ow ca bo la pl_22 to rd hh)) (bw_pS _) (bw_pS' _) rfl rfl hl.1 (rest := []) (st1 := [.int r22]) rfl rfl (Nat.le_of_ble_eq_true rfl) dX6_isPlan_22 ⟨(Nat.le_of_ble_eq_true rfl), (Nat.le_of_ble_eq_true rfl)⟩ (fun H locs hI => ?_)
      refine lv_if_eq (tgt := 36) hx hb dX6_isPlan_25 (by decide) (fun c_25 => ?_) (fun c_25 => ?_)
      · rw [if_pos c_25] at h
        exact j36 pl_22 to rd x1 _ _ _ h hI (lv_sub hl [0,1] rfl)
      rw [if_neg c_25] at h
      refine lv_aload_n hx hb dX6_isPlan_28 rfl (lv_at hl 0 rfl) ?_
      obtain ⟨r29, pl_29, to_29, rd_29, hc, h⟩ := bw_b4_e h
      refine bw_callV S hK hZ hI (mX6_readProject l G cy g a z rows asd sm buf bm th od om ow ca bo la pl_22 to rd hh r29 pl_29 to_29 rd_29 hc) Y_X6_readProject V_X6_readProject l_X6_163 ⟨(Nat.le_of_ble_eq_true rfl), (Nat.le_of_ble_eq_true rfl)⟩ (q0 := 0) rfl rfl rfl (ws' := (bw_mW cy a z rows asd sm buf bm th od om ow ca bo la pl_29 to_29 rd_29 hh)) (bw_pS _) (bw_pS' _) rfl rfl hl.1 (rest := []) (st1 := [.int r29]) rfl rfl (Nat.le_of_ble_eq_true rfl) dX6_isPlan_29 ⟨(Nat.le_of_ble_eq_true rfl), (Nat.le_of_ble_eq_true rfl)⟩ (fun H locs hI => ?_)
      refine lv_istore_n (lv' := [(1, .int r29), (0, .ref (a 0))]) hx hb dX6_isPlan_32 rfl hl (by decide) rfl (fun ls hl => ?_)
      refine lv_goto (tgt := 15) hx hb dX6_isPlan_33 (by decide) ?_
      exact ih _ _ _ pl_29 to_29 rd_29 r29 h hI (lv_sub hl [1,0] rfl)
  unfold fX6_isPlan at h
  refine lv_aload_n hx hb dX6_isPlan_0 rfl (lv_at hl 0 rfl) ?_
  refine lv_iconst (v := 0) hx hb dX6_isPlan_1 rfl ?_
  refine bw_put S hK hI 0 13 (ws' := (bw_mW cy a z rows asd sm buf bm th od om ow ca bo la 0 to rd hh)) tyX6 tyX6_ok nmX6 rfl rfl (by decide) i_X6 f_X6_144 rfl rfl rfl rfl (Nat.le_of_ble_eq_true rfl) rfl dX6_isPlan_2 (fun H locs hI => ?_)
  refine lv_aload_n hx hb dX6_isPlan_5 rfl (lv_at hl 0 rfl) ?_
  refine lv_iconst (v := 0) hx hb dX6_isPlan_6 rfl ?_
  refine bw_put S hK hI 0 14 (ws' := (bw_mW cy a z rows asd sm buf bm th od om ow ca bo la 0 0 rd hh)) tyX6 tyX6_ok nmX6 rfl rfl (by decide) i_X6 f_X6_157 rfl rfl rfl rfl (Nat.le_of_ble_eq_true rfl) rfl dX6_isPlan_7 (fun H locs hI => ?_)
  refine lv_aload_n hx hb dX6_isPlan_10 rfl (lv_at hl 0 rfl) ?_
  obtain ⟨r11, pl_11, to_11, rd_11, hc, h⟩ := bw_b4_e h
  refine bw_callV S hK hZ hI (mX6_readProject l G cy g a z rows asd sm buf bm th od om ow ca bo la 0 0 rd hh r11 pl_11 to_11 rd_11 hc) Y_X6_readProject V_X6_readProject l_X6_163 ⟨(Nat.le_of_ble_eq_true rfl), (Nat.le_of_ble_eq_true rfl)⟩ (q0 := 0) rfl rfl rfl (ws' := (bw_mW cy a z rows asd sm buf bm th od om ow ca bo la pl_11 to_11 rd_11 hh)) (bw_pS _) (bw_pS' _) rfl rfl hl.1 (rest := []) (st1 := [.int r11]) rfl rfl (Nat.le_of_ble_eq_true rfl) dX6_isPlan_11 ⟨(Nat.le_of_ble_eq_true rfl), (Nat.le_of_ble_eq_true rfl)⟩ (fun H locs hI => ?_)
  refine lv_istore_n (lv' := [(1, .int r11), (0, .ref (a 0))]) hx hb dX6_isPlan_14 rfl hl (by decide) rfl (fun ls hl => ?_)
  exact l15  bw_fu _ _ _ pl_11 to_11 rd_11 r11 h hI (lv_sub hl [1,0] rfl)
set_option maxHeartbeats 4000000 in
set_option maxRecDepth 100000 in
theorem mX6_firstError (l : Launch) (G : va_G) (cy : Nat → ClassId) (g : Nat) (a : Nat → Nat) (z : bw_A1) (rows : bw_A1) (asd : bw_A1) (sm : Int32) (buf : bw_A1) (bm : Int32) (th : Int32) (od : bw_A1) (om : Int32) (ow : Int32) (ca : Int32) (bo : Int32) (la : Int32) (pl : Int32) (to : Int32) (rd : bw_A1) (hh : Int64) (r : Int32) (th' : Int32) (pl' : Int32) (to' : Int32) (rd' : bw_A1) (h : fX6_firstError buf bm th pl to rd = some (r, th', pl', to', rd')) : bw_M l yX6_firstError cX6_firstError 1 (some .int) 5 114 G cy g [.ref (a 0)] (bw_mW cy a z rows asd sm buf bm th od om ow ca bo la pl to rd hh) (some (.int r)) (bw_mW cy a z rows asd sm buf bm th' od om ow ca bo la pl' to' rd' hh) := by
  refine bw_ofW (by decide +kernel) RX6 rfl (Nat.le_of_ble_eq_true rfl) ?_
  intro p e s m below meth c ls S hr hlocks hK hZ hI hl
  have hx := S.1
  have hb := S.2.1
  have hown := S.2.2.2.1
  have hts := S.2.2.2.2
  generalize va_A _ s.heap.size = A at hI hZ ⊢
  generalize hQ : MQ below _ _ s 0 0 A = Q
  have hl : lv_has ls 1 [(0, .ref (a 0))] := hl
  unfold fX6_firstError at h
  refine lv_aload_n hx hb dX6_firstError_0 rfl (lv_at hl 0 rfl) ?_
  refine lv_iconst (v := 0) hx hb dX6_firstError_1 rfl ?_
  refine bw_put S hK hI 0 6 (ws' := (bw_mW cy a z rows asd sm buf bm 0 od om ow ca bo la pl to rd hh)) tyX6 tyX6_ok nmX6 rfl rfl (by decide) i_X6 f_X6_28 rfl rfl rfl rfl (Nat.le_of_ble_eq_true rfl) rfl dX6_firstError_2 (fun H locs hI => ?_)
  refine lv_aload_n hx hb dX6_firstError_5 rfl (lv_at hl 0 rfl) ?_
  obtain ⟨r6, pl_6, to_6, rd_6, hc, h⟩ := bw_b4_e h
  refine bw_callV S hK hZ hI (mX6_isPlan l G cy g a z rows asd sm buf bm 0 od om ow ca bo la pl to rd hh r6 pl_6 to_6 rd_6 hc) Y_X6_isPlan V_X6_isPlan l_X6_167 ⟨(Nat.le_of_ble_eq_true rfl), (Nat.le_of_ble_eq_true rfl)⟩ (q0 := 0) rfl rfl rfl (ws' := (bw_mW cy a z rows asd sm buf bm 0 od om ow ca bo la pl_6 to_6 rd_6 hh)) (bw_pS _) (bw_pS' _) rfl rfl hl.1 (rest := []) (st1 := [.int r6]) rfl rfl (Nat.le_of_ble_eq_true rfl) dX6_firstError_6 ⟨(Nat.le_of_ble_eq_true rfl), (Nat.le_of_ble_eq_true rfl)⟩ (fun H locs hI => ?_)
  refine lv_if_eq (tgt := 19) hx hb dX6_firstError_9 (by decide) (fun c_9 => ?_) (fun c_9 => ?_)
  · rw [if_pos c_9] at h
    refine lv_aload_n hx hb dX6_firstError_19 rfl (lv_at hl 0 rfl) ?_
    refine bw_get S hK hI 0 13 rfl rfl (by decide) i_X6 f_X6_144 rfl dX6_firstError_20 ?_
    exact bw_iret (d := (0, pl_6, to_6, rd_6)) (rr := (r, th', pl', to', rd')) S hr hlocks h (fun q : (Int32 × Int32 × Int32 × bw_A1) => (bw_mW cy a z rows asd sm buf bm q.1 od om ow ca bo la q.2.1 q.2.2.1 q.2.2.2 hh)) hI rfl dX6_firstError_23 hQ
  rw [if_neg c_9] at h
  refine lv_aload_n hx hb dX6_firstError_12 rfl (lv_at hl 0 rfl) ?_
  refine bw_get S hK hI 0 5 rfl rfl (by decide) i_X6 f_X6_141 rfl dX6_firstError_13 ?_
  refine lv_goto (tgt := 23) hx hb dX6_firstError_16 (by decide) ?_
  exact bw_iret (d := (0, pl_6, to_6, rd_6)) (rr := (r, th', pl', to', rd')) S hr hlocks h (fun q : (Int32 × Int32 × Int32 × bw_A1) => (bw_mW cy a z rows asd sm buf bm q.1 od om ow ca bo la q.2.1 q.2.2.1 q.2.2.2 hh)) hI rfl dX6_firstError_23 hQ
set_option maxHeartbeats 4000000 in
set_option maxRecDepth 100000 in
theorem mX6_openAll (l : Launch) (G : va_G) (cy : Nat → ClassId) (g : Nat) (a : Nat → Nat) (z : bw_A1) (rows : bw_A1) (asd : bw_A1) (sm : Int32) (buf : bw_A1) (bm : Int32) (th : Int32) (od : bw_A1) (om : Int32) (ow : Int32) (ca : Int32) (bo : Int32) (la : Int32) (pl : Int32) (to : Int32) (rd : bw_A1) (hh : Int64) (r : Int32) (z' : bw_A1) (rows' : bw_A1) (sm' : Int32) (bm' : Int32) (th' : Int32) (pl' : Int32) (to' : Int32) (rd' : bw_A1) (h : fX6_openAll z rows sm buf bm th pl to rd = some (r, z', rows', sm', bm', th', pl', to', rd')) : bw_M l yX6_openAll cX6_openAll 4 (some .int) 5 114 G cy g [.ref (a 0)] (bw_mW cy a z rows asd sm buf bm th od om ow ca bo la pl to rd hh) (some (.int r)) (bw_mW cy a z' rows' asd sm' buf bm' th' od om ow ca bo la pl' to' rd' hh) := by
  refine bw_ofW (by decide +kernel) RX6 rfl (Nat.le_of_ble_eq_true rfl) ?_
  intro p e s m below meth c ls S hr hlocks hK hZ hI hl
  have hx := S.1
  have hb := S.2.1
  have hown := S.2.2.2.1
  have hts := S.2.2.2.2
  generalize va_A _ s.heap.size = A at hI hZ ⊢
  generalize hQ : MQ below _ _ s 0 0 A = Q
  have hl : lv_has ls 4 [(0, .ref (a 0))] := hl
  have l79 : ∀ (rows : bw_A1) (sm : Int32) (bm : Int32) (th : Int32) (pl : Int32) (to : Int32) (rd : bw_A1) (x1 : Int32) (x2 : Int32) (k46 : bw_A1 → Int32 → Option (Int32 × bw_A1 × bw_A1 × Int32 × Int32 × Int32 × Int32 × Int32 × bw_A1)) (hk46 : ∀ (H : Heap) (locs : List Loc) (ls : Array Slot) (z_ : bw_A1) (x1_ : Int32), k46 z_ x1_ = some (r, z', rows', sm', bm', th', pl', to', rd') → bw_I G A s.heap (bw_mW cy a z_ rows asd sm buf bm th od om ow ca bo la pl to rd hh) H locs → lv_has ls 4 [(0, .ref (a 0)), (1, .int x1_)] → W p l e (bw_rm 5 114) s m [.ref (a 0)].toArray below meth c H locs 0 0 Q (F0 m 46 ls [])) (n : Nat) (H : Heap) (locs : List Loc) (ls : Array Slot) (z : bw_A1) (x3 : Int32), lX6_openAll_79 k46 rows sm buf bm th pl to rd x1 x2 n z x3 = some (r, z', rows', sm', bm', th', pl', to', rd') → bw_I G A s.heap (bw_mW cy a z rows asd sm buf bm th od om ow ca bo la pl to rd hh) H locs → lv_has ls 4 [(0, .ref (a 0)), (1, .int x1), (2, .int x2), (3, .int x3)] → W p l e (bw_rm 5 114) s m [.ref (a 0)].toArray below meth c H locs 0 0 Q (F0 m 79 ls []) := by
    intro rows sm bm th pl to rd x1 x2 k46 hk46 n
    induction n with
    | zero => intro H locs ls z x3 h; exact bw_none h
    | succ n ih =>
      intro H locs ls z x3 h hI hl
      have h : bX6_openAll_79 k46 (lX6_openAll_79 k46 rows sm buf bm th pl to rd x1 x2 n) rows sm buf bm th pl to rd x1 x2 z x3 = some (r, z', rows', sm', bm', th', pl', to', rd') := h
      unfold bX6_openAll_79 at h
      refine lv_iload_n hx hb dX6_openAll_79 rfl (lv_at hl 3 rfl) ?_
      refine lv_aload_n hx hb dX6_openAll_80 rfl (lv_at hl 0 rfl) ?_
      refine bw_get S hK hI 0 15 rfl rfl (by decide) i_X6 f_X6_25 rfl dX6_openAll_81 ?_
      refine lv_iload_n hx hb dX6_openAll_84 rfl (lv_at hl 2 rfl) ?_
      refine lv_iconst (v := 2) hx hb dX6_openAll_85 rfl ?_
      refine lv_iadd hx hb dX6_openAll_86 ?_
      obtain ⟨v87, hv, h⟩ := bw_b1_e h
      refine bw_iald hx hb hK hI 6 hv rfl dX6_openAll_87 ?_
      refine lv_icmp_ge (tgt := 119) hx hb dX6_openAll_88 (by decide) (fun c_88 => ?_) (fun c_88 => ?_)
      · rw [if_pos c_88] at h
        obtain ⟨x1_119, e_119⟩ : ∃ y : Int32, y = x1 + 1 := ⟨_, rfl⟩
        have h := bw_let_e h e_119
        refine lv_iinc (v := x1_119) (lv' := [(1, .int x1_119), (0, .ref (a 0)), (2, .int x2), (3, .int x3)]) hx hb dX6_openAll_119 hl (k := 1) rfl (by rw [e_119]; rfl) (by decide) rfl (fun ls hl => ?_)
        clear e_119
        refine lv_goto (tgt := 46) hx hb dX6_openAll_122 (by decide) ?_
        exact hk46 _ _ _ z x1_119 h hI (lv_sub hl [1,0] rfl)
      rw [if_neg c_88] at h
      refine lv_aload_n hx hb dX6_openAll_91 rfl (lv_at hl 0 rfl) ?_
      refine lv_aload_n hx hb dX6_openAll_92 rfl (lv_at hl 0 rfl) ?_
      refine bw_get S hK hI 0 0 rfl rfl (by decide) i_X6 f_X6_7 rfl dX6_openAll_93 ?_
      refine lv_iconst (v := 0) hx hb dX6_openAll_96 rfl ?_
      obtain ⟨v97, hv, h⟩ := bw_b1_e h
      refine bw_iald hx hb hK hI 1 hv rfl dX6_openAll_97 ?_
      refine lv_iconst (v := 1) hx hb dX6_openAll_98 rfl ?_
      refine lv_isub hx hb dX6_openAll_99 ?_
      refine lv_aload_n hx hb dX6_openAll_100 rfl (lv_at hl 0 rfl) ?_
      refine bw_get S hK hI 0 15 rfl rfl (by decide) i_X6 f_X6_25 rfl dX6_openAll_101 ?_
      refine lv_iload_n hx hb dX6_openAll_104 rfl (lv_at hl 2 rfl) ?_
      refine lv_iconst (v := 3) hx hb dX6_openAll_105 rfl ?_
      refine lv_iadd hx hb dX6_openAll_106 ?_
      refine lv_iload_n hx hb dX6_openAll_107 rfl (lv_at hl 3 rfl) ?_
      refine lv_iadd hx hb dX6_openAll_108 ?_
      obtain ⟨v109, hv, h⟩ := bw_b1_e h
      refine bw_iald hx hb hK hI 6 hv rfl dX6_openAll_109 ?_
      obtain ⟨z_110, hc, h⟩ := bw_b1_e h
      refine bw_callV S hK hZ hI (mX6_planNow l G cy g a z rows asd sm buf bm th od om ow ca bo la pl to rd hh (v97 - 1) v109 z_110 hc) Y_X6_planNow V_X6_planNow l_X6_126 ⟨(Nat.le_of_ble_eq_true rfl), (Nat.le_of_ble_eq_true rfl)⟩ (q0 := 0) rfl rfl rfl (ws' := (bw_mW cy a z_110 rows asd sm buf bm th od om ow ca bo la pl to rd hh)) (bw_pS _) (bw_pS' _) rfl rfl hl.1 (rest := []) (st1 := []) rfl rfl (Nat.le_of_ble_eq_true rfl) dX6_openAll_110 ⟨(Nat.le_of_ble_eq_true rfl), (Nat.le_of_ble_eq_true rfl)⟩ (fun H locs hI => ?_)
      obtain ⟨x3_113, e_113⟩ : ∃ y : Int32, y = x3 + 1 := ⟨_, rfl⟩
      have h := bw_let_e h e_113
      refine lv_iinc (v := x3_113) (lv' := [(3, .int x3_113), (0, .ref (a 0)), (1, .int x1), (2, .int x2)]) hx hb dX6_openAll_113 hl (k := 3) rfl (by rw [e_113]; rfl) (by decide) rfl (fun ls hl => ?_)
      clear e_113
      refine lv_goto (tgt := 79) hx hb dX6_openAll_116 (by decide) ?_
      exact ih _ _ _ z_110 x3_113 h hI (lv_sub hl [1,2,3,0] rfl)
  have l46 : ∀ (rows : bw_A1) (sm : Int32) (bm : Int32) (th : Int32) (pl : Int32) (to : Int32) (rd : bw_A1) (n : Nat) (H : Heap) (locs : List Loc) (ls : Array Slot) (z : bw_A1) (x1 : Int32), lX6_openAll_46 rows sm buf bm th pl to rd n z x1 = some (r, z', rows', sm', bm', th', pl', to', rd') → bw_I G A s.heap (bw_mW cy a z rows asd sm buf bm th od om ow ca bo la pl to rd hh) H locs → lv_has ls 4 [(0, .ref (a 0)), (1, .int x1)] → W p l e (bw_rm 5 114) s m [.ref (a 0)].toArray below meth c H locs 0 0 Q (F0 m 46 ls []) := by
    intro rows sm bm th pl to rd n
    induction n with
    | zero => intro H locs ls z x1 h; exact bw_none h
    | succ n ih =>
      intro H locs ls z x1 h hI hl
      have h : bX6_openAll_46  (lX6_openAll_46 rows sm buf bm th pl to rd n) rows sm buf bm th pl to rd z x1 = some (r, z', rows', sm', bm', th', pl', to', rd') := h
      unfold bX6_openAll_46 at h
      refine lv_iload_n hx hb dX6_openAll_46 rfl (lv_at hl 1 rfl) ?_
      refine lv_aload_n hx hb dX6_openAll_47 rfl (lv_at hl 0 rfl) ?_
      refine bw_get S hK hI 0 14 rfl rfl (by decide) i_X6 f_X6_157 rfl dX6_openAll_48 ?_
      refine lv_icmp_ge (tgt := 125) hx hb dX6_openAll_51 (by decide) (fun c_51 => ?_) (fun c_51 => ?_)
      · rw [if_pos c_51] at h
        refine lv_aload_n hx hb dX6_openAll_125 rfl (lv_at hl 0 rfl) ?_
        refine lv_iconst (v := 0) hx hb dX6_openAll_126 rfl ?_
        refine bw_put S hK hI 0 5 (ws' := (bw_mW cy a z rows asd sm buf 0 th od om ow ca bo la pl to rd hh)) tyX6 tyX6_ok nmX6 rfl rfl (by decide) i_X6 f_X6_141 rfl rfl rfl rfl (Nat.le_of_ble_eq_true rfl) rfl dX6_openAll_127 (fun H locs hI => ?_)
        refine lv_aload_n hx hb dX6_openAll_130 rfl (lv_at hl 0 rfl) ?_
        refine bw_get S hK hI 0 0 rfl rfl (by decide) i_X6 f_X6_7 rfl dX6_openAll_131 ?_
        refine lv_iconst (v := 0) hx hb dX6_openAll_134 rfl ?_
        obtain ⟨v135, hv, h⟩ := bw_b1_e h
        refine bw_iald hx hb hK hI 1 hv rfl dX6_openAll_135 ?_
        exact bw_iret (d := (z, rows, sm, 0, th, pl, to, rd)) (rr := (r, z', rows', sm', bm', th', pl', to', rd')) S hr hlocks h (fun q : (bw_A1 × bw_A1 × Int32 × Int32 × Int32 × Int32 × Int32 × bw_A1) => (bw_mW cy a q.1 q.2.1 asd q.2.2.1 buf q.2.2.2.1 q.2.2.2.2.1 od om ow ca bo la q.2.2.2.2.2.1 q.2.2.2.2.2.2.1 q.2.2.2.2.2.2.2 hh)) hI rfl dX6_openAll_136 hQ
      rw [if_neg c_51] at h
      refine lv_bipush (v := 11) hx hb dX6_openAll_54 (by decide) ?_
      refine lv_iload_n hx hb dX6_openAll_56 rfl (lv_at hl 1 rfl) ?_
      refine lv_imul hx hb dX6_openAll_57 ?_
      refine lv_topi (fun x2_58 e_58 => ?_)
      have h := bw_let_e h e_58
      clear e_58
      refine lv_istore_n (lv' := [(2, .int x2_58), (0, .ref (a 0)), (1, .int x1)]) hx hb dX6_openAll_58 rfl hl (by decide) rfl (fun ls hl => ?_)
      refine lv_aload_n hx hb dX6_openAll_59 rfl (lv_at hl 1 rfl) ?_
      refine lv_aload_n hx hb dX6_openAll_60 rfl (lv_at hl 1 rfl) ?_
      refine bw_get S hK hI 0 15 rfl rfl (by decide) i_X6 f_X6_25 rfl dX6_openAll_61 ?_
      refine lv_iload_n hx hb dX6_openAll_64 rfl (lv_at hl 0 rfl) ?_
      obtain ⟨v65, hv, h⟩ := bw_b1_e h
      refine bw_iald hx hb hK hI 6 hv rfl dX6_openAll_65 ?_
      refine lv_aload_n hx hb dX6_openAll_66 rfl (lv_at hl 1 rfl) ?_
      refine bw_get S hK hI 0 15 rfl rfl (by decide) i_X6 f_X6_25 rfl dX6_openAll_67 ?_
      refine lv_iload_n hx hb dX6_openAll_70 rfl (lv_at hl 0 rfl) ?_
      refine lv_iconst (v := 1) hx hb dX6_openAll_71 rfl ?_
      refine lv_iadd hx hb dX6_openAll_72 ?_
      obtain ⟨v73, hv, h⟩ := bw_b1_e h
      refine bw_iald hx hb hK hI 6 hv rfl dX6_openAll_73 ?_
      obtain ⟨z_74, hc, h⟩ := bw_b1_e h
      refine bw_callV S hK hZ hI (mX6_openNow l G cy g a z rows asd sm buf bm th od om ow ca bo la pl to rd hh v65 v73 z_74 hc) Y_X6_openNow V_X6_openNow l_X6_120 ⟨(Nat.le_of_ble_eq_true rfl), (Nat.le_of_ble_eq_true rfl)⟩ (q0 := 0) rfl rfl rfl (ws' := (bw_mW cy a z_74 rows asd sm buf bm th od om ow ca bo la pl to rd hh)) (bw_pS _) (bw_pS' _) rfl rfl hl.1 (rest := []) (st1 := []) rfl rfl (Nat.le_of_ble_eq_true rfl) dX6_openAll_74 ⟨(Nat.le_of_ble_eq_true rfl), (Nat.le_of_ble_eq_true rfl)⟩ (fun H locs hI => ?_)
      refine lv_iconst (v := 0) hx hb dX6_openAll_77 rfl ?_
      refine lv_istore_n (lv' := [(3, .int 0), (2, .int x2_58), (0, .ref (a 0)), (1, .int x1)]) hx hb dX6_openAll_78 rfl hl (by decide) rfl (fun ls hl => ?_)
      exact l79 rows sm bm th pl to rd x1 x2_58 (lX6_openAll_46 rows sm buf bm th pl to rd n) ih bw_fu _ _ _ z_74 0 h hI (lv_sub hl [2,3,1,0] rfl)
  unfold fX6_openAll at h
  refine lv_aload_n hx hb dX6_openAll_0 rfl (lv_at hl 0 rfl) ?_
  refine lv_iconst (v := 0) hx hb dX6_openAll_1 rfl ?_
  refine bw_put S hK hI 0 6 (ws' := (bw_mW cy a z rows asd sm buf bm 0 od om ow ca bo la pl to rd hh)) tyX6 tyX6_ok nmX6 rfl rfl (by decide) i_X6 f_X6_28 rfl rfl rfl rfl (Nat.le_of_ble_eq_true rfl) rfl dX6_openAll_2 (fun H locs hI => ?_)
  refine lv_aload_n hx hb dX6_openAll_5 rfl (lv_at hl 0 rfl) ?_
  obtain ⟨r6, pl_6, to_6, rd_6, hc, h⟩ := bw_b4_e h
  refine bw_callV S hK hZ hI (mX6_isPlan l G cy g a z rows asd sm buf bm 0 od om ow ca bo la pl to rd hh r6 pl_6 to_6 rd_6 hc) Y_X6_isPlan V_X6_isPlan l_X6_167 ⟨(Nat.le_of_ble_eq_true rfl), (Nat.le_of_ble_eq_true rfl)⟩ (q0 := 0) rfl rfl rfl (ws' := (bw_mW cy a z rows asd sm buf bm 0 od om ow ca bo la pl_6 to_6 rd_6 hh)) (bw_pS _) (bw_pS' _) rfl rfl hl.1 (rest := []) (st1 := [.int r6]) rfl rfl (Nat.le_of_ble_eq_true rfl) dX6_openAll_6 ⟨(Nat.le_of_ble_eq_true rfl), (Nat.le_of_ble_eq_true rfl)⟩ (fun H locs hI => ?_)
  refine lv_if_ne (tgt := 18) hx hb dX6_openAll_9 (by decide) (fun c_9 => ?_) (fun c_9 => ?_)
  · rw [if_neg c_9] at h
    refine lv_aload_n hx hb dX6_openAll_18 rfl (lv_at hl 0 rfl) ?_
    refine bw_get S hK hI 0 0 rfl rfl (by decide) i_X6 f_X6_7 rfl dX6_openAll_19 ?_
    refine lv_iconst (v := 0) hx hb dX6_openAll_22 rfl ?_
    obtain ⟨v23, hv, h⟩ := bw_b1_e h
    refine bw_iald hx hb hK hI 1 hv rfl dX6_openAll_23 ?_
    refine lv_aload_n hx hb dX6_openAll_24 rfl (lv_at hl 0 rfl) ?_
    refine bw_get S hK hI 0 14 rfl rfl (by decide) i_X6 f_X6_157 rfl dX6_openAll_25 ?_
    refine lv_iadd hx hb dX6_openAll_28 ?_
    refine lv_bipush (v := 6) hx hb dX6_openAll_29 (by decide) ?_
    refine lv_icmp_le (tgt := 40) hx hb dX6_openAll_31 (by decide) (fun c_31 => ?_) (fun c_31 => ?_)
    · rw [if_pos c_31] at h
      refine lv_aload_n hx hb dX6_openAll_40 rfl (lv_at hl 0 rfl) ?_
      obtain ⟨rows_41, sm_41, hc, h⟩ := bw_b2_e h
      refine bw_callV S hK hZ hI (mX6_save l G cy g a z rows asd sm buf bm 0 od om ow ca bo la pl_6 to_6 rd_6 hh rows_41 sm_41 hc) Y_X6_save V_X6_save l_X6_117 ⟨(Nat.le_of_ble_eq_true rfl), (Nat.le_of_ble_eq_true rfl)⟩ (q0 := 0) rfl rfl rfl (ws' := (bw_mW cy a z rows_41 asd sm_41 buf bm 0 od om ow ca bo la pl_6 to_6 rd_6 hh)) (bw_pS _) (bw_pS' _) rfl rfl hl.1 (rest := []) (st1 := []) rfl rfl (Nat.le_of_ble_eq_true rfl) dX6_openAll_41 ⟨(Nat.le_of_ble_eq_true rfl), (Nat.le_of_ble_eq_true rfl)⟩ (fun H locs hI => ?_)
      refine lv_iconst (v := 0) hx hb dX6_openAll_44 rfl ?_
      refine lv_istore_n (lv' := [(1, .int 0), (0, .ref (a 0))]) hx hb dX6_openAll_45 rfl hl (by decide) rfl (fun ls hl => ?_)
      exact l46 rows_41 sm_41 bm 0 pl_6 to_6 rd_6 bw_fu _ _ _ z 0 h hI (lv_sub hl [1,0] rfl)
    rw [if_neg c_31] at h
    refine lv_aload_n hx hb dX6_openAll_34 rfl (lv_at hl 0 rfl) ?_
    refine lv_iconst (v := 2) hx hb dX6_openAll_35 rfl ?_
    obtain ⟨r36, th_36, hc, h⟩ := bw_b2_e h
    refine bw_callV S hK hZ hI (mX6_fails l G cy g a z rows asd sm buf bm 0 od om ow ca bo la pl_6 to_6 rd_6 hh 2 r36 th_36 hc) Y_X6_fails V_X6_fails l_X6_114 ⟨(Nat.le_of_ble_eq_true rfl), (Nat.le_of_ble_eq_true rfl)⟩ (q0 := 0) rfl rfl rfl (ws' := (bw_mW cy a z rows asd sm buf bm th_36 od om ow ca bo la pl_6 to_6 rd_6 hh)) (bw_pS _) (bw_pS' _) rfl rfl hl.1 (rest := []) (st1 := [.int r36]) rfl rfl (Nat.le_of_ble_eq_true rfl) dX6_openAll_36 ⟨(Nat.le_of_ble_eq_true rfl), (Nat.le_of_ble_eq_true rfl)⟩ (fun H locs hI => ?_)
    exact bw_iret (d := (z, rows, sm, bm, th_36, pl_6, to_6, rd_6)) (rr := (r, z', rows', sm', bm', th', pl', to', rd')) S hr hlocks h (fun q : (bw_A1 × bw_A1 × Int32 × Int32 × Int32 × Int32 × Int32 × bw_A1) => (bw_mW cy a q.1 q.2.1 asd q.2.2.1 buf q.2.2.2.1 q.2.2.2.2.1 od om ow ca bo la q.2.2.2.2.2.1 q.2.2.2.2.2.2.1 q.2.2.2.2.2.2.2 hh)) hI rfl dX6_openAll_39 hQ
  rw [if_pos c_9] at h
  refine lv_aload_n hx hb dX6_openAll_12 rfl (lv_at hl 0 rfl) ?_
  refine lv_iconst (v := 1) hx hb dX6_openAll_13 rfl ?_
  obtain ⟨r14, th_14, hc, h⟩ := bw_b2_e h
  refine bw_callV S hK hZ hI (mX6_fails l G cy g a z rows asd sm buf bm 0 od om ow ca bo la pl_6 to_6 rd_6 hh 1 r14 th_14 hc) Y_X6_fails V_X6_fails l_X6_114 ⟨(Nat.le_of_ble_eq_true rfl), (Nat.le_of_ble_eq_true rfl)⟩ (q0 := 0) rfl rfl rfl (ws' := (bw_mW cy a z rows asd sm buf bm th_14 od om ow ca bo la pl_6 to_6 rd_6 hh)) (bw_pS _) (bw_pS' _) rfl rfl hl.1 (rest := []) (st1 := [.int r14]) rfl rfl (Nat.le_of_ble_eq_true rfl) dX6_openAll_14 ⟨(Nat.le_of_ble_eq_true rfl), (Nat.le_of_ble_eq_true rfl)⟩ (fun H locs hI => ?_)
  exact bw_iret (d := (z, rows, sm, bm, th_14, pl_6, to_6, rd_6)) (rr := (r, z', rows', sm', bm', th', pl', to', rd')) S hr hlocks h (fun q : (bw_A1 × bw_A1 × Int32 × Int32 × Int32 × Int32 × Int32 × bw_A1) => (bw_mW cy a q.1 q.2.1 asd q.2.2.1 buf q.2.2.2.1 q.2.2.2.2.1 od om ow ca bo la q.2.2.2.2.2.1 q.2.2.2.2.2.2.1 q.2.2.2.2.2.2.2 hh)) hI rfl dX6_openAll_17 hQ
set_option maxHeartbeats 4000000 in
set_option maxRecDepth 100000 in
theorem mX6_undo (l : Launch) (G : va_G) (cy : Nat → ClassId) (g : Nat) (a : Nat → Nat) (z : bw_A1) (rows : bw_A1) (asd : bw_A1) (sm : Int32) (buf : bw_A1) (bm : Int32) (th : Int32) (od : bw_A1) (om : Int32) (ow : Int32) (ca : Int32) (bo : Int32) (la : Int32) (pl : Int32) (to : Int32) (rd : bw_A1) (hh : Int64) (r : Int32) (z' : bw_A1) (sm' : Int32) (th' : Int32) (h : fX6_undo z rows sm th = some (r, z', sm', th')) : bw_M l yX6_undo cX6_undo 2 (some .int) 1 21 G cy g [.ref (a 0)] (bw_mW cy a z rows asd sm buf bm th od om ow ca bo la pl to rd hh) (some (.int r)) (bw_mW cy a z' rows asd sm' buf bm th' od om ow ca bo la pl to rd hh) := by
  refine bw_ofW (by decide +kernel) RX6 rfl (Nat.le_of_ble_eq_true rfl) ?_
  intro p e s m below meth c ls S hr hlocks hK hZ hI hl
  have hx := S.1
  have hb := S.2.1
  have hown := S.2.2.2.1
  have hts := S.2.2.2.2
  generalize va_A _ s.heap.size = A at hI hZ ⊢
  generalize hQ : MQ below _ _ s 0 0 A = Q
  have hl : lv_has ls 2 [(0, .ref (a 0))] := hl
  have l30 : ∀ (sm : Int32) (th : Int32) (n : Nat) (H : Heap) (locs : List Loc) (ls : Array Slot) (z : bw_A1) (x1 : Int32), lX6_undo_30 rows sm th n z x1 = some (r, z', sm', th') → bw_I G A s.heap (bw_mW cy a z rows asd sm buf bm th od om ow ca bo la pl to rd hh) H locs → lv_has ls 2 [(0, .ref (a 0)), (1, .int x1)] → W p l e (bw_rm 1 21) s m [.ref (a 0)].toArray below meth c H locs 0 0 Q (F0 m 30 ls []) := by
    intro sm th n
    induction n with
    | zero => intro H locs ls z x1 h; exact bw_none h
    | succ n ih =>
      intro H locs ls z x1 h hI hl
      have h : bX6_undo_30  (lX6_undo_30 rows sm th n) rows sm th z x1 = some (r, z', sm', th') := h
      unfold bX6_undo_30 at h
      refine lv_iload_n hx hb dX6_undo_30 rfl (lv_at hl 1 rfl) ?_
      refine lv_sipush (v := 444) hx hb dX6_undo_31 (by decide) ?_
      refine lv_icmp_ge (tgt := 64) hx hb dX6_undo_34 (by decide) (fun c_34 => ?_) (fun c_34 => ?_)
      · rw [if_pos c_34] at h
        refine lv_aload_n hx hb dX6_undo_64 rfl (lv_at hl 0 rfl) ?_
        refine bw_get S hK hI 0 3 rfl rfl (by decide) i_X6 f_X6_32 rfl dX6_undo_65 ?_
        exact bw_iret (d := (z, sm, th)) (rr := (r, z', sm', th')) S hr hlocks h (fun q : (bw_A1 × Int32 × Int32) => (bw_mW cy a q.1 rows asd q.2.1 buf bm q.2.2 od om ow ca bo la pl to rd hh)) hI rfl dX6_undo_68 hQ
      rw [if_neg c_34] at h
      refine lv_aload_n hx hb dX6_undo_37 rfl (lv_at hl 0 rfl) ?_
      refine bw_get S hK hI 0 0 rfl rfl (by decide) i_X6 f_X6_7 rfl dX6_undo_38 ?_
      refine lv_iload_n hx hb dX6_undo_41 rfl (lv_at hl 1 rfl) ?_
      refine lv_aload_n hx hb dX6_undo_42 rfl (lv_at hl 0 rfl) ?_
      refine bw_get S hK hI 0 1 rfl rfl (by decide) i_X6 f_X6_13 rfl dX6_undo_43 ?_
      refine lv_sipush (v := 444) hx hb dX6_undo_46 (by decide) ?_
      refine lv_aload_n hx hb dX6_undo_49 rfl (lv_at hl 0 rfl) ?_
      refine bw_get S hK hI 0 3 rfl rfl (by decide) i_X6 f_X6_32 rfl dX6_undo_50 ?_
      refine lv_imul hx hb dX6_undo_53 ?_
      refine lv_iload_n hx hb dX6_undo_54 rfl (lv_at hl 1 rfl) ?_
      refine lv_iadd hx hb dX6_undo_55 ?_
      obtain ⟨v56, hv, h⟩ := bw_b1_e h
      refine bw_iald hx hb hK hI 2 hv rfl dX6_undo_56 ?_
      obtain ⟨z_57, hv, h⟩ := bw_b1_e h
      refine bw_iast hx hb hK hI 1 (ws' := (bw_mW cy a z_57 rows asd sm buf bm th od om ow ca bo la pl to rd hh)) hv rfl rfl dX6_undo_57 (fun H locs hI => ?_)
      obtain ⟨x1_58, e_58⟩ : ∃ y : Int32, y = x1 + 1 := ⟨_, rfl⟩
      have h := bw_let_e h e_58
      refine lv_iinc (v := x1_58) (lv' := [(1, .int x1_58), (0, .ref (a 0))]) hx hb dX6_undo_58 hl (k := 1) rfl (by rw [e_58]; rfl) (by decide) rfl (fun ls hl => ?_)
      clear e_58
      refine lv_goto (tgt := 30) hx hb dX6_undo_61 (by decide) ?_
      exact ih _ _ _ z_57 x1_58 h hI (lv_sub hl [1,0] rfl)
  unfold fX6_undo at h
  refine lv_aload_n hx hb dX6_undo_0 rfl (lv_at hl 0 rfl) ?_
  refine lv_iconst (v := 0) hx hb dX6_undo_1 rfl ?_
  refine bw_put S hK hI 0 6 (ws' := (bw_mW cy a z rows asd sm buf bm 0 od om ow ca bo la pl to rd hh)) tyX6 tyX6_ok nmX6 rfl rfl (by decide) i_X6 f_X6_28 rfl rfl rfl rfl (Nat.le_of_ble_eq_true rfl) rfl dX6_undo_2 (fun H locs hI => ?_)
  refine lv_aload_n hx hb dX6_undo_5 rfl (lv_at hl 0 rfl) ?_
  refine bw_get S hK hI 0 3 rfl rfl (by decide) i_X6 f_X6_32 rfl dX6_undo_6 ?_
  refine lv_if_ne (tgt := 18) hx hb dX6_undo_9 (by decide) (fun c_9 => ?_) (fun c_9 => ?_)
  · rw [if_neg c_9] at h
    refine lv_aload_n hx hb dX6_undo_18 rfl (lv_at hl 0 rfl) ?_
    refine lv_dup hx hb dX6_undo_19 rfl ?_
    refine bw_get S hK hI 0 3 rfl rfl (by decide) i_X6 f_X6_32 rfl dX6_undo_20 ?_
    refine lv_iconst (v := 1) hx hb dX6_undo_23 rfl ?_
    refine lv_isub hx hb dX6_undo_24 ?_
    refine lv_topi (fun sm_25 e_25 => ?_)
    have h := bw_let_e h e_25
    clear e_25
    refine bw_put S hK hI 0 3 (ws' := (bw_mW cy a z rows asd sm_25 buf bm 0 od om ow ca bo la pl to rd hh)) tyX6 tyX6_ok nmX6 rfl rfl (by decide) i_X6 f_X6_32 rfl rfl rfl rfl (Nat.le_of_ble_eq_true rfl) rfl dX6_undo_25 (fun H locs hI => ?_)
    refine lv_iconst (v := 0) hx hb dX6_undo_28 rfl ?_
    refine lv_istore_n (lv' := [(1, .int 0), (0, .ref (a 0))]) hx hb dX6_undo_29 rfl hl (by decide) rfl (fun ls hl => ?_)
    exact l30 sm_25 0 bw_fu _ _ _ z 0 h hI (lv_sub hl [1,0] rfl)
  rw [if_pos c_9] at h
  refine lv_aload_n hx hb dX6_undo_12 rfl (lv_at hl 0 rfl) ?_
  refine lv_iconst (v := 1) hx hb dX6_undo_13 rfl ?_
  obtain ⟨r14, th_14, hc, h⟩ := bw_b2_e h
  refine bw_callV S hK hZ hI (mX6_fails l G cy g a z rows asd sm buf bm 0 od om ow ca bo la pl to rd hh 1 r14 th_14 hc) Y_X6_fails V_X6_fails l_X6_114 ⟨(Nat.le_of_ble_eq_true rfl), (Nat.le_of_ble_eq_true rfl)⟩ (q0 := 0) rfl rfl rfl (ws' := (bw_mW cy a z rows asd sm buf bm th_14 od om ow ca bo la pl to rd hh)) (bw_pS _) (bw_pS' _) rfl rfl hl.1 (rest := []) (st1 := [.int r14]) rfl rfl (Nat.le_of_ble_eq_true rfl) dX6_undo_14 ⟨(Nat.le_of_ble_eq_true rfl), (Nat.le_of_ble_eq_true rfl)⟩ (fun H locs hI => ?_)
  exact bw_iret (d := (z, sm, th_14)) (rr := (r, z', sm', th')) S hr hlocks h (fun q : (bw_A1 × Int32 × Int32) => (bw_mW cy a q.1 rows asd q.2.1 buf bm q.2.2 od om ow ca bo la pl to rd hh)) hI rfl dX6_undo_17 hQ
set_option maxHeartbeats 4000000 in
set_option maxRecDepth 100000 in
theorem mX6_planned (l : Launch) (G : va_G) (cy : Nat → ClassId) (g : Nat) (a : Nat → Nat) (z : bw_A1) (rows : bw_A1) (asd : bw_A1) (sm : Int32) (buf : bw_A1) (bm : Int32) (th : Int32) (od : bw_A1) (om : Int32) (ow : Int32) (ca : Int32) (bo : Int32) (la : Int32) (pl : Int32) (to : Int32) (rd : bw_A1) (hh : Int64) (p1 : Int32) (r : Int32) (h : fX6_planned z p1 = some r) : bw_M l yX6_planned cX6_planned 4 (some .int) 1 20 G cy g [.ref (a 0), .int p1] (bw_mW cy a z rows asd sm buf bm th od om ow ca bo la pl to rd hh) (some (.int r)) (bw_mW cy a z rows asd sm buf bm th od om ow ca bo la pl to rd hh) := by
  refine bw_ofW (by decide +kernel) RX6 rfl (Nat.le_of_ble_eq_true rfl) ?_
  intro p e s m below meth c ls S hr hlocks hK hZ hI hl
  have hx := S.1
  have hb := S.2.1
  have hown := S.2.2.2.1
  have hts := S.2.2.2.2
  generalize va_A _ s.heap.size = A at hI hZ ⊢
  generalize hQ : MQ below _ _ s 0 0 A = Q
  have hl : lv_has ls 4 [(0, .ref (a 0)), (1, .int p1)] := hl
  have l4 : ∀ (x1 : Int32) (n : Nat) (H : Heap) (locs : List Loc) (ls : Array Slot) (x2 : Int32) (x3 : Int32), lX6_planned_4 z x1 n x2 x3 = some r → bw_I G A s.heap (bw_mW cy a z rows asd sm buf bm th od om ow ca bo la pl to rd hh) H locs → lv_has ls 4 [(0, .ref (a 0)), (1, .int x1), (2, .int x2), (3, .int x3)] → W p l e (bw_rm 1 20) s m [.ref (a 0), .int p1].toArray below meth c H locs 0 0 Q (F0 m 4 ls []) := by
    intro x1 n
    induction n with
    | zero => intro H locs ls x2 x3 h; exact bw_none h
    | succ n ih =>
      intro H locs ls x2 x3 h hI hl
      have h : bX6_planned_4  (lX6_planned_4 z x1 n) z x1 x2 x3 = some r := h
      unfold bX6_planned_4 at h
      refine lv_iload_n hx hb dX6_planned_4 rfl (lv_at hl 3 rfl) ?_
      refine lv_aload_n hx hb dX6_planned_5 rfl (lv_at hl 0 rfl) ?_
      refine bw_get S hK hI 0 0 rfl rfl (by decide) i_X6 f_X6_7 rfl dX6_planned_6 ?_
      refine lv_iload_n hx hb dX6_planned_9 rfl (lv_at hl 1 rfl) ?_
      obtain ⟨r10, hc, h⟩ := bw_b1_e h
      refine bw_callP S hK hZ hI (mX6_at l G cy g x1 r10 hc) Y_X6_at V_X6_at l_X6_39 ⟨(Nat.le_of_ble_eq_true rfl), (Nat.le_of_ble_eq_true rfl)⟩ (rest := [.ref (a 1), .int x3]) (st1 := [.int r10, .ref (a 1), .int x3]) rfl hl.1 rfl rfl (Nat.le_of_ble_eq_true rfl) dX6_planned_10 ⟨(Nat.le_of_ble_eq_true rfl), (Nat.le_of_ble_eq_true rfl)⟩ (fun H locs hI => ?_)
      refine lv_iconst (v := 5) hx hb dX6_planned_13 rfl ?_
      refine lv_iadd hx hb dX6_planned_14 ?_
      obtain ⟨v15, hv, h⟩ := bw_b1_e h
      refine bw_iald hx hb hK hI 1 hv rfl dX6_planned_15 ?_
      refine lv_icmp_ge (tgt := 42) hx hb dX6_planned_16 (by decide) (fun c_16 => ?_) (fun c_16 => ?_)
      · rw [if_pos c_16] at h
        refine lv_iload_n hx hb dX6_planned_42 rfl (lv_at hl 2 rfl) ?_
        exact bw_iretP S hr hlocks h hI rfl dX6_planned_43 hQ
      rw [if_neg c_16] at h
      refine lv_iload_n hx hb dX6_planned_19 rfl (lv_at hl 2 rfl) ?_
      refine lv_aload_n hx hb dX6_planned_20 rfl (lv_at hl 0 rfl) ?_
      refine bw_get S hK hI 0 0 rfl rfl (by decide) i_X6 f_X6_7 rfl dX6_planned_21 ?_
      refine lv_iload_n hx hb dX6_planned_24 rfl (lv_at hl 1 rfl) ?_
      obtain ⟨r25, hc, h⟩ := bw_b1_e h
      refine bw_callP S hK hZ hI (mX6_at l G cy g x1 r25 hc) Y_X6_at V_X6_at l_X6_39 ⟨(Nat.le_of_ble_eq_true rfl), (Nat.le_of_ble_eq_true rfl)⟩ (rest := [.ref (a 1), .int x2]) (st1 := [.int r25, .ref (a 1), .int x2]) rfl hl.1 rfl rfl (Nat.le_of_ble_eq_true rfl) dX6_planned_25 ⟨(Nat.le_of_ble_eq_true rfl), (Nat.le_of_ble_eq_true rfl)⟩ (fun H locs hI => ?_)
      refine lv_bipush (v := 10) hx hb dX6_planned_28 (by decide) ?_
      refine lv_iadd hx hb dX6_planned_30 ?_
      refine lv_iload_n hx hb dX6_planned_31 rfl (lv_at hl 3 rfl) ?_
      refine lv_iadd hx hb dX6_planned_32 ?_
      obtain ⟨v33, hv, h⟩ := bw_b1_e h
      refine bw_iald hx hb hK hI 1 hv rfl dX6_planned_33 ?_
      refine lv_iadd hx hb dX6_planned_34 ?_
      refine lv_topi (fun x2_35 e_35 => ?_)
      have h := bw_let_e h e_35
      clear e_35
      refine lv_istore_n (lv' := [(2, .int x2_35), (0, .ref (a 0)), (1, .int x1), (3, .int x3)]) hx hb dX6_planned_35 rfl hl (by decide) rfl (fun ls hl => ?_)
      obtain ⟨x3_36, e_36⟩ : ∃ y : Int32, y = x3 + 1 := ⟨_, rfl⟩
      have h := bw_let_e h e_36
      refine lv_iinc (v := x3_36) (lv' := [(3, .int x3_36), (2, .int x2_35), (0, .ref (a 0)), (1, .int x1)]) hx hb dX6_planned_36 hl (k := 3) rfl (by rw [e_36]; rfl) (by decide) rfl (fun ls hl => ?_)
      clear e_36
      refine lv_goto (tgt := 4) hx hb dX6_planned_39 (by decide) ?_
      exact ih _ _ _ x2_35 x3_36 h hI (lv_sub hl [2,3,1,0] rfl)
  unfold fX6_planned at h
  refine lv_iconst (v := 0) hx hb dX6_planned_0 rfl ?_
  refine lv_istore_n (lv' := [(2, .int 0), (0, .ref (a 0)), (1, .int p1)]) hx hb dX6_planned_1 rfl hl (by decide) rfl (fun ls hl => ?_)
  refine lv_iconst (v := 0) hx hb dX6_planned_2 rfl ?_
  refine lv_istore_n (lv' := [(3, .int 0), (2, .int 0), (0, .ref (a 0)), (1, .int p1)]) hx hb dX6_planned_3 rfl hl (by decide) rfl (fun ls hl => ?_)
  exact l4 p1 bw_fu _ _ _ 0 0 h hI (lv_sub hl [2,3,1,0] rfl)
