set_option maxHeartbeats 4000000 in
set_option maxRecDepth 100000 in
theorem mX6_weakest (l : Launch) (G : va_G) (cy : Nat → ClassId) (g : Nat) (a : Nat → Nat) (z : bw_A1) (rows : bw_A1) (asd : bw_A1) (sm : Int32) (buf : bw_A1) (bm : Int32) (th : Int32) (od : bw_A1) (om : Int32) (ow : Int32) (ca : Int32) (bo : Int32) (la : Int32) (pl : Int32) (to : Int32) (rd : bw_A1) (hh : Int64) (r : Int32) (z' : bw_A1) (asd' : bw_A1) (th' : Int32) (od' : bw_A1) (om' : Int32) (ow' : Int32) (ca' : Int32) (bo' : Int32) (la' : Int32) (h : fX6_weakest z asd th od om ow ca bo la = some (r, z', asd', th', od', om', ow', ca', bo', la')) : bw_M l yX6_weakest cX6_weakest 1 (some .int) 9 206 G cy g [.ref (a 0)] (bw_mW cy a z rows asd sm buf bm th od om ow ca bo la pl to rd hh) (some (.int r)) (bw_mW cy a z' rows asd' sm buf bm th' od' om' ow' ca' bo' la' pl to rd hh) := by
  refine bw_ofW (by decide +kernel) RX6 rfl (Nat.le_of_ble_eq_true rfl) ?_
  intro p e s m below meth c ls S hr hlocks hK hZ hI hl
  have hx := S.1
  have hb := S.2.1
  have hown := S.2.2.2.1
  have hts := S.2.2.2.2
  generalize va_A _ s.heap.size = A at hI hZ ⊢
  generalize hQ : MQ below _ _ s 0 0 A = Q
  have hl : lv_has ls 1 [(0, .ref (a 0))] := hl
  unfold fX6_weakest at h
  refine lv_aload_n hx hb dX6_weakest_0 rfl (lv_at hl 0 rfl) ?_
  refine lv_iconst (v := 0) hx hb dX6_weakest_1 rfl ?_
  refine bw_put S hK hI 0 6 (ws' := (bw_mW cy a z rows asd sm buf bm 0 od om ow ca bo la pl to rd hh)) tyX6 tyX6_ok nmX6 rfl rfl (by decide) i_X6 f_X6_28 rfl rfl rfl rfl (Nat.le_of_ble_eq_true rfl) rfl dX6_weakest_2 (fun H locs hI => ?_)
  refine lv_aload_n hx hb dX6_weakest_5 rfl (lv_at hl 0 rfl) ?_
  obtain ⟨r6, z_6, asd_6, od_6, om_6, ow_6, ca_6, bo_6, la_6, hc, h⟩ := bw_b9_e h
  refine bw_callV S hK hZ hI (mX6_weakestOf l G cy g a z rows asd sm buf bm 0 od om ow ca bo la pl to rd hh r6 z_6 asd_6 od_6 om_6 ow_6 ca_6 bo_6 la_6 hc) Y_X6_weakestOf V_X6_weakestOf l_X6_211 ⟨(Nat.le_of_ble_eq_true rfl), (Nat.le_of_ble_eq_true rfl)⟩ (q0 := 0) rfl rfl rfl (ws' := (bw_mW cy a z_6 rows asd_6 sm buf bm 0 od_6 om_6 ow_6 ca_6 bo_6 la_6 pl to rd hh)) (bw_pS _) (bw_pS' _) rfl rfl hl.1 (rest := []) (st1 := [.int r6]) rfl rfl (Nat.le_of_ble_eq_true rfl) dX6_weakest_6 ⟨(Nat.le_of_ble_eq_true rfl), (Nat.le_of_ble_eq_true rfl)⟩ (fun H locs hI => ?_)
  exact bw_iret (d := (z_6, asd_6, 0, od_6, om_6, ow_6, ca_6, bo_6, la_6)) (rr := (r, z', asd', th', od', om', ow', ca', bo', la')) S hr hlocks h (fun q : (bw_A1 × bw_A1 × Int32 × bw_A1 × Int32 × Int32 × Int32 × Int32 × Int32) => (bw_mW cy a q.1 rows q.2.1 sm buf bm q.2.2.1 q.2.2.2.1 q.2.2.2.2.1 q.2.2.2.2.2.1 q.2.2.2.2.2.2.1 q.2.2.2.2.2.2.2.1 q.2.2.2.2.2.2.2.2 pl to rd hh)) hI rfl dX6_weakest_9 hQ
set_option maxHeartbeats 4000000 in
set_option maxRecDepth 100000 in
theorem mX6_leastLeft (l : Launch) (G : va_G) (cy : Nat → ClassId) (g : Nat) (a : Nat → Nat) (z : bw_A1) (rows : bw_A1) (asd : bw_A1) (sm : Int32) (buf : bw_A1) (bm : Int32) (th : Int32) (od : bw_A1) (om : Int32) (ow : Int32) (ca : Int32) (bo : Int32) (la : Int32) (pl : Int32) (to : Int32) (rd : bw_A1) (hh : Int64) (r : Int32) (h : fX6_leastLeft z = some r) : bw_M l yX6_leastLeft cX6_leastLeft 3 (some .int) 2 41 G cy g [.ref (a 0)] (bw_mW cy a z rows asd sm buf bm th od om ow ca bo la pl to rd hh) (some (.int r)) (bw_mW cy a z rows asd sm buf bm th od om ow ca bo la pl to rd hh) := by
  refine bw_ofW (by decide +kernel) RX6 rfl (Nat.le_of_ble_eq_true rfl) ?_
  intro p e s m below meth c ls S hr hlocks hK hZ hI hl
  have hx := S.1
  have hb := S.2.1
  have hown := S.2.2.2.1
  have hts := S.2.2.2.2
  generalize va_A _ s.heap.size = A at hI hZ ⊢
  generalize hQ : MQ below _ _ s 0 0 A = Q
  have hl : lv_has ls 3 [(0, .ref (a 0))] := hl
  have j53 : ∀ (x2 : Int32) (s0 : Int32) (k5 : Int32 → Int32 → Option Int32) (hk5 : ∀ (H : Heap) (locs : List Loc) (ls : Array Slot) (x1_ : Int32) (x2_ : Int32), k5 x1_ x2_ = some r → bw_I G A s.heap (bw_mW cy a z rows asd sm buf bm th od om ow ca bo la pl to rd hh) H locs → lv_has ls 3 [(0, .ref (a 0)), (1, .int x1_), (2, .int x2_)] → W p l e (bw_rm 2 41) s m [.ref (a 0)].toArray below meth c H locs 0 0 Q (F0 m 5 ls [])) (H : Heap) (locs : List Loc) (ls : Array Slot), jX6_leastLeft_53 k5 z x2 s0 = some r → bw_I G A s.heap (bw_mW cy a z rows asd sm buf bm th od om ow ca bo la pl to rd hh) H locs → lv_has ls 3 [(0, .ref (a 0)), (2, .int x2)] → W p l e (bw_rm 2 41) s m [.ref (a 0)].toArray below meth c H locs 0 0 Q (F0 m 53 ls [.int s0]) := by
    intro x2 s0 k5 hk5 H locs ls h hI hl
    unfold jX6_leastLeft_53 at h
    refine lv_istore_n (lv' := [(1, .int s0), (0, .ref (a 0)), (2, .int x2)]) hx hb dX6_leastLeft_53 rfl hl (by decide) rfl (fun ls hl => ?_)
    obtain ⟨x2_54, e_54⟩ : ∃ y : Int32, y = x2 + 1 := ⟨_, rfl⟩
    have h := bw_let_e h e_54
    refine lv_iinc (v := x2_54) (lv' := [(2, .int x2_54), (1, .int s0), (0, .ref (a 0))]) hx hb dX6_leastLeft_54 hl (k := 2) rfl (by rw [e_54]; rfl) (by decide) rfl (fun ls hl => ?_)
    clear e_54
    refine lv_goto (tgt := 5) hx hb dX6_leastLeft_57 (by decide) ?_
    exact hk5 _ _ _ s0 x2_54 h hI (lv_sub hl [2,1,0] rfl)
  have j52 : ∀ (x1 : Int32) (x2 : Int32) (k5 : Int32 → Int32 → Option Int32) (hk5 : ∀ (H : Heap) (locs : List Loc) (ls : Array Slot) (x1_ : Int32) (x2_ : Int32), k5 x1_ x2_ = some r → bw_I G A s.heap (bw_mW cy a z rows asd sm buf bm th od om ow ca bo la pl to rd hh) H locs → lv_has ls 3 [(0, .ref (a 0)), (1, .int x1_), (2, .int x2_)] → W p l e (bw_rm 2 41) s m [.ref (a 0)].toArray below meth c H locs 0 0 Q (F0 m 5 ls [])) (H : Heap) (locs : List Loc) (ls : Array Slot), jX6_leastLeft_52 k5 z x1 x2 = some r → bw_I G A s.heap (bw_mW cy a z rows asd sm buf bm th od om ow ca bo la pl to rd hh) H locs → lv_has ls 3 [(0, .ref (a 0)), (1, .int x1), (2, .int x2)] → W p l e (bw_rm 2 41) s m [.ref (a 0)].toArray below meth c H locs 0 0 Q (F0 m 52 ls []) := by
    intro x1 x2 k5 hk5 H locs ls h hI hl
    unfold jX6_leastLeft_52 at h
    refine lv_iload_n hx hb dX6_leastLeft_52 rfl (lv_at hl 1 rfl) ?_
    exact j53 x2 x1 k5 hk5 _ _ _ h hI (lv_sub hl [0,2] rfl)
  have l5 : ∀  (n : Nat) (H : Heap) (locs : List Loc) (ls : Array Slot) (x1 : Int32) (x2 : Int32), lX6_leastLeft_5 z n x1 x2 = some r → bw_I G A s.heap (bw_mW cy a z rows asd sm buf bm th od om ow ca bo la pl to rd hh) H locs → lv_has ls 3 [(0, .ref (a 0)), (1, .int x1), (2, .int x2)] → W p l e (bw_rm 2 41) s m [.ref (a 0)].toArray below meth c H locs 0 0 Q (F0 m 5 ls []) := by
    intro  n
    induction n with
    | zero => intro H locs ls x1 x2 h; exact bw_none h
    | succ n ih =>
      intro H locs ls x1 x2 h hI hl
      have h : bX6_leastLeft_5  (lX6_leastLeft_5 z n) z x1 x2 = some r := h
      unfold bX6_leastLeft_5 at h
      refine lv_iload_n hx hb dX6_leastLeft_5 rfl (lv_at hl 2 rfl) ?_
      refine lv_aload_n hx hb dX6_leastLeft_6 rfl (lv_at hl 0 rfl) ?_
      refine bw_get S hK hI 0 0 rfl rfl (by decide) i_X6 f_X6_7 rfl dX6_leastLeft_7 ?_
      refine lv_iconst (v := 0) hx hb dX6_leastLeft_10 rfl ?_
      obtain ⟨v11, hv, h⟩ := bw_b1_e h
      refine bw_iald hx hb hK hI 1 hv rfl dX6_leastLeft_11 ?_
      refine lv_icmp_ge (tgt := 60) hx hb dX6_leastLeft_12 (by decide) (fun c_12 => ?_) (fun c_12 => ?_)
      · rw [if_pos c_12] at h
        refine lv_iload_n hx hb dX6_leastLeft_60 rfl (lv_at hl 1 rfl) ?_
        exact bw_iretP S hr hlocks h hI rfl dX6_leastLeft_61 hQ
      rw [if_neg c_12] at h
      refine lv_aload_n hx hb dX6_leastLeft_15 rfl (lv_at hl 0 rfl) ?_
      refine lv_iload_n hx hb dX6_leastLeft_16 rfl (lv_at hl 2 rfl) ?_
      obtain ⟨r17, hc, h⟩ := bw_b1_e h
      refine bw_callV S hK hZ hI (mX6_isOpen l G cy g a z rows asd sm buf bm th od om ow ca bo la pl to rd hh x2 r17 hc) Y_X6_isOpen V_X6_isOpen l_X6_43 ⟨(Nat.le_of_ble_eq_true rfl), (Nat.le_of_ble_eq_true rfl)⟩ (q0 := 0) rfl rfl rfl (ws' := (bw_mW cy a z rows asd sm buf bm th od om ow ca bo la pl to rd hh)) (bw_pS _) (bw_pS' _) rfl rfl hl.1 (rest := []) (st1 := [.int r17]) rfl rfl (Nat.le_of_ble_eq_true rfl) dX6_leastLeft_17 ⟨(Nat.le_of_ble_eq_true rfl), (Nat.le_of_ble_eq_true rfl)⟩ (fun H locs hI => ?_)
      refine lv_if_eq (tgt := 52) hx hb dX6_leastLeft_20 (by decide) (fun c_20 => ?_) (fun c_20 => ?_)
      · rw [if_pos c_20] at h
        exact j52 x1 x2 (lX6_leastLeft_5 z n) ih _ _ _ h hI (lv_sub hl [0,1,2] rfl)
      rw [if_neg c_20] at h
      refine lv_aload_n hx hb dX6_leastLeft_23 rfl (lv_at hl 0 rfl) ?_
      refine bw_get S hK hI 0 0 rfl rfl (by decide) i_X6 f_X6_7 rfl dX6_leastLeft_24 ?_
      refine lv_iload_n hx hb dX6_leastLeft_27 rfl (lv_at hl 2 rfl) ?_
      obtain ⟨r28, hc, h⟩ := bw_b1_e h
      refine bw_callP S hK hZ hI (mX6_at l G cy g x2 r28 hc) Y_X6_at V_X6_at l_X6_39 ⟨(Nat.le_of_ble_eq_true rfl), (Nat.le_of_ble_eq_true rfl)⟩ (rest := [.ref (a 1)]) (st1 := [.int r28, .ref (a 1)]) rfl hl.1 rfl rfl (Nat.le_of_ble_eq_true rfl) dX6_leastLeft_28 ⟨(Nat.le_of_ble_eq_true rfl), (Nat.le_of_ble_eq_true rfl)⟩ (fun H locs hI => ?_)
      refine lv_iconst (v := 2) hx hb dX6_leastLeft_31 rfl ?_
      refine lv_iadd hx hb dX6_leastLeft_32 ?_
      obtain ⟨v33, hv, h⟩ := bw_b1_e h
      refine bw_iald hx hb hK hI 1 hv rfl dX6_leastLeft_33 ?_
      refine lv_iload_n hx hb dX6_leastLeft_34 rfl (lv_at hl 1 rfl) ?_
      refine lv_icmp_ge (tgt := 52) hx hb dX6_leastLeft_35 (by decide) (fun c_35 => ?_) (fun c_35 => ?_)
      · rw [if_pos c_35] at h
        exact j52 x1 x2 (lX6_leastLeft_5 z n) ih _ _ _ h hI (lv_sub hl [0,1,2] rfl)
      rw [if_neg c_35] at h
      refine lv_aload_n hx hb dX6_leastLeft_38 rfl (lv_at hl 0 rfl) ?_
      refine bw_get S hK hI 0 0 rfl rfl (by decide) i_X6 f_X6_7 rfl dX6_leastLeft_39 ?_
      refine lv_iload_n hx hb dX6_leastLeft_42 rfl (lv_at hl 2 rfl) ?_
      obtain ⟨r43, hc, h⟩ := bw_b1_e h
      refine bw_callP S hK hZ hI (mX6_at l G cy g x2 r43 hc) Y_X6_at V_X6_at l_X6_39 ⟨(Nat.le_of_ble_eq_true rfl), (Nat.le_of_ble_eq_true rfl)⟩ (rest := [.ref (a 1)]) (st1 := [.int r43, .ref (a 1)]) rfl hl.1 rfl rfl (Nat.le_of_ble_eq_true rfl) dX6_leastLeft_43 ⟨(Nat.le_of_ble_eq_true rfl), (Nat.le_of_ble_eq_true rfl)⟩ (fun H locs hI => ?_)
      refine lv_iconst (v := 2) hx hb dX6_leastLeft_46 rfl ?_
      refine lv_iadd hx hb dX6_leastLeft_47 ?_
      obtain ⟨v48, hv, h⟩ := bw_b1_e h
      refine bw_iald hx hb hK hI 1 hv rfl dX6_leastLeft_48 ?_
      refine lv_goto (tgt := 53) hx hb dX6_leastLeft_49 (by decide) ?_
      exact j53 x2 v48 (lX6_leastLeft_5 z n) ih _ _ _ h hI (lv_sub hl [0,2] rfl)
  unfold fX6_leastLeft at h
  refine lv_ldc hx hb hown (hts _ (List.mem_cons_of_mem _ k_X6_207)) dX6_leastLeft_0 ?_
  refine lv_istore_n (lv' := [(1, .int 1000000), (0, .ref (a 0))]) hx hb dX6_leastLeft_2 rfl hl (by decide) rfl (fun ls hl => ?_)
  refine lv_iconst (v := 0) hx hb dX6_leastLeft_3 rfl ?_
  refine lv_istore_n (lv' := [(2, .int 0), (1, .int 1000000), (0, .ref (a 0))]) hx hb dX6_leastLeft_4 rfl hl (by decide) rfl (fun ls hl => ?_)
  exact l5  bw_fu _ _ _ 1000000 0 h hI (lv_sub hl [2,1,0] rfl)
set_option maxHeartbeats 4000000 in
set_option maxRecDepth 100000 in
theorem mX6_ruleOf (l : Launch) (G : va_G) (cy : Nat → ClassId) (g : Nat) (a : Nat → Nat) (z : bw_A1) (rows : bw_A1) (asd : bw_A1) (sm : Int32) (buf : bw_A1) (bm : Int32) (th : Int32) (od : bw_A1) (om : Int32) (ow : Int32) (ca : Int32) (bo : Int32) (la : Int32) (pl : Int32) (to : Int32) (rd : bw_A1) (hh : Int64) (p1 : Int32) (p2 : Int32) (r : Int32) (z' : bw_A1) (asd' : bw_A1) (od' : bw_A1) (om' : Int32) (ow' : Int32) (ca' : Int32) (bo' : Int32) (la' : Int32) (h : fX6_ruleOf z asd od om ow ca bo la p1 p2 = some (r, z', asd', od', om', ow', ca', bo', la')) : bw_M l yX6_ruleOf cX6_ruleOf 7 (some .int) 8 184 G cy g [.ref (a 0), .int p1, .int p2] (bw_mW cy a z rows asd sm buf bm th od om ow ca bo la pl to rd hh) (some (.int r)) (bw_mW cy a z' rows asd' sm buf bm th od' om' ow' ca' bo' la' pl to rd hh) := by
  refine bw_ofW (by decide +kernel) RX6 rfl (Nat.le_of_ble_eq_true rfl) ?_
  intro p e s m below meth c ls S hr hlocks hK hZ hI hl
  have hx := S.1
  have hb := S.2.1
  have hown := S.2.2.2.1
  have hts := S.2.2.2.2
  generalize va_A _ s.heap.size = A at hI hZ ⊢
  generalize hQ : MQ below _ _ s 0 0 A = Q
  have hl : lv_has ls 7 [(0, .ref (a 0)), (1, .int p1), (2, .int p2)] := hl
  have j80 : ∀ (z : bw_A1) (asd : bw_A1) (od : bw_A1) (om : Int32) (ow : Int32) (ca : Int32) (bo : Int32) (la : Int32) (x1 : Int32) (x2 : Int32) (x3 : Int32) (x5 : Int32) (s0 : Int32) (k18 : bw_A1 → bw_A1 → bw_A1 → Int32 → Int32 → Int32 → Int32 → Int32 → Int32 → Int32 → Int32 → Option (Int32 × bw_A1 × bw_A1 × bw_A1 × Int32 × Int32 × Int32 × Int32 × Int32)) (hk18 : ∀ (H : Heap) (locs : List Loc) (ls : Array Slot) (z_ : bw_A1) (asd_ : bw_A1) (od_ : bw_A1) (om_ : Int32) (ow_ : Int32) (ca_ : Int32) (bo_ : Int32) (la_ : Int32) (x3_ : Int32) (x4_ : Int32) (x5_ : Int32), k18 z_ asd_ od_ om_ ow_ ca_ bo_ la_ x3_ x4_ x5_ = some (r, z', asd', od', om', ow', ca', bo', la') → bw_I G A s.heap (bw_mW cy a z_ rows asd_ sm buf bm th od_ om_ ow_ ca_ bo_ la_ pl to rd hh) H locs → lv_has ls 7 [(0, .ref (a 0)), (1, .int x1), (2, .int x2), (3, .int x3_), (4, .int x4_), (5, .int x5_)] → W p l e (bw_rm 8 184) s m [.ref (a 0), .int p1, .int p2].toArray below meth c H locs 0 0 Q (F0 m 18 ls [])) (H : Heap) (locs : List Loc) (ls : Array Slot), jX6_ruleOf_80 k18 z asd od om ow ca bo la x1 x2 x3 x5 s0 = some (r, z', asd', od', om', ow', ca', bo', la') → bw_I G A s.heap (bw_mW cy a z rows asd sm buf bm th od om ow ca bo la pl to rd hh) H locs → lv_has ls 7 [(0, .ref (a 0)), (1, .int x1), (2, .int x2), (3, .int x3), (5, .int x5)] → W p l e (bw_rm 8 184) s m [.ref (a 0), .int p1, .int p2].toArray below meth c H locs 0 0 Q (F0 m 80 ls [.int s0]) := by
    intro z asd od om ow ca bo la x1 x2 x3 x5 s0 k18 hk18 H locs ls h hI hl
    unfold jX6_ruleOf_80 at h
    refine lv_istore (lv' := [(4, .int s0), (0, .ref (a 0)), (1, .int x1), (2, .int x2), (3, .int x3), (5, .int x5)]) hx hb dX6_ruleOf_80 hl (by decide) rfl (fun ls hl => ?_)
    obtain ⟨x5_82, e_82⟩ : ∃ y : Int32, y = x5 + 1 := ⟨_, rfl⟩
    have h := bw_let_e h e_82
    refine lv_iinc (v := x5_82) (lv' := [(5, .int x5_82), (4, .int s0), (0, .ref (a 0)), (1, .int x1), (2, .int x2), (3, .int x3)]) hx hb dX6_ruleOf_82 hl (k := 5) rfl (by rw [e_82]; rfl) (by decide) rfl (fun ls hl => ?_)
    clear e_82
    refine lv_goto (tgt := 18) hx hb dX6_ruleOf_85 (by decide) ?_
    exact hk18 _ _ _ z asd od om ow ca bo la x3 s0 x5_82 h hI (lv_sub hl [2,3,4,5,1,0] rfl)
  have j65 : ∀ (z : bw_A1) (asd : bw_A1) (od : bw_A1) (om : Int32) (ow : Int32) (ca : Int32) (bo : Int32) (la : Int32) (x1 : Int32) (x2 : Int32) (x4 : Int32) (x5 : Int32) (x6 : Int32) (s0 : Int32) (k18 : bw_A1 → bw_A1 → bw_A1 → Int32 → Int32 → Int32 → Int32 → Int32 → Int32 → Int32 → Int32 → Option (Int32 × bw_A1 × bw_A1 × bw_A1 × Int32 × Int32 × Int32 × Int32 × Int32)) (hk18 : ∀ (H : Heap) (locs : List Loc) (ls : Array Slot) (z_ : bw_A1) (asd_ : bw_A1) (od_ : bw_A1) (om_ : Int32) (ow_ : Int32) (ca_ : Int32) (bo_ : Int32) (la_ : Int32) (x3_ : Int32) (x4_ : Int32) (x5_ : Int32), k18 z_ asd_ od_ om_ ow_ ca_ bo_ la_ x3_ x4_ x5_ = some (r, z', asd', od', om', ow', ca', bo', la') → bw_I G A s.heap (bw_mW cy a z_ rows asd_ sm buf bm th od_ om_ ow_ ca_ bo_ la_ pl to rd hh) H locs → lv_has ls 7 [(0, .ref (a 0)), (1, .int x1), (2, .int x2), (3, .int x3_), (4, .int x4_), (5, .int x5_)] → W p l e (bw_rm 8 184) s m [.ref (a 0), .int p1, .int p2].toArray below meth c H locs 0 0 Q (F0 m 18 ls [])) (H : Heap) (locs : List Loc) (ls : Array Slot), jX6_ruleOf_65 k18 z asd od om ow ca bo la x1 x2 x4 x5 x6 s0 = some (r, z', asd', od', om', ow', ca', bo', la') → bw_I G A s.heap (bw_mW cy a z rows asd sm buf bm th od om ow ca bo la pl to rd hh) H locs → lv_has ls 7 [(0, .ref (a 0)), (1, .int x1), (2, .int x2), (4, .int x4), (5, .int x5), (6, .int x6)] → W p l e (bw_rm 8 184) s m [.ref (a 0), .int p1, .int p2].toArray below meth c H locs 0 0 Q (F0 m 65 ls [.int s0]) := by
    intro z asd od om ow ca bo la x1 x2 x4 x5 x6 s0 k18 hk18 H locs ls h hI hl
    unfold jX6_ruleOf_65 at h
    refine lv_istore_n (lv' := [(3, .int s0), (0, .ref (a 0)), (1, .int x1), (2, .int x2), (4, .int x4), (5, .int x5), (6, .int x6)]) hx hb dX6_ruleOf_65 rfl hl (by decide) rfl (fun ls hl => ?_)
    refine lv_iload hx hb dX6_ruleOf_66 (lv_at hl 6 rfl) ?_
    refine lv_iload hx hb dX6_ruleOf_68 (lv_at hl 4 rfl) ?_
    refine lv_icmp_le (tgt := 78) hx hb dX6_ruleOf_70 (by decide) (fun c_70 => ?_) (fun c_70 => ?_)
    · rw [if_pos c_70] at h
      refine lv_iload hx hb dX6_ruleOf_78 (lv_at hl 4 rfl) ?_
      exact j80 z asd od om ow ca bo la x1 x2 s0 x5 x4 k18 hk18 _ _ _ h hI (lv_sub hl [1,2,3,0,5] rfl)
    rw [if_neg c_70] at h
    refine lv_iload hx hb dX6_ruleOf_73 (lv_at hl 6 rfl) ?_
    refine lv_goto (tgt := 80) hx hb dX6_ruleOf_75 (by decide) ?_
    exact j80 z asd od om ow ca bo la x1 x2 s0 x5 x6 k18 hk18 _ _ _ h hI (lv_sub hl [1,2,3,0,5] rfl)
  have l18 : ∀ (x1 : Int32) (x2 : Int32) (n : Nat) (H : Heap) (locs : List Loc) (ls : Array Slot) (z : bw_A1) (asd : bw_A1) (od : bw_A1) (om : Int32) (ow : Int32) (ca : Int32) (bo : Int32) (la : Int32) (x3 : Int32) (x4 : Int32) (x5 : Int32), lX6_ruleOf_18 x1 x2 n z asd od om ow ca bo la x3 x4 x5 = some (r, z', asd', od', om', ow', ca', bo', la') → bw_I G A s.heap (bw_mW cy a z rows asd sm buf bm th od om ow ca bo la pl to rd hh) H locs → lv_has ls 7 [(0, .ref (a 0)), (1, .int x1), (2, .int x2), (3, .int x3), (4, .int x4), (5, .int x5)] → W p l e (bw_rm 8 184) s m [.ref (a 0), .int p1, .int p2].toArray below meth c H locs 0 0 Q (F0 m 18 ls []) := by
    intro x1 x2 n
    induction n with
    | zero => intro H locs ls z asd od om ow ca bo la x3 x4 x5 h; exact bw_none h
    | succ n ih =>
      intro H locs ls z asd od om ow ca bo la x3 x4 x5 h hI hl
      have h : bX6_ruleOf_18  (lX6_ruleOf_18 x1 x2 n) x1 x2 z asd od om ow ca bo la x3 x4 x5 = some (r, z', asd', od', om', ow', ca', bo', la') := h
      unfold bX6_ruleOf_18 at h
      refine lv_iload hx hb dX6_ruleOf_18 (lv_at hl 5 rfl) ?_
      refine lv_iconst (v := 3) hx hb dX6_ruleOf_20 rfl ?_
      refine lv_icmp_ge (tgt := 88) hx hb dX6_ruleOf_21 (by decide) (fun c_21 => ?_) (fun c_21 => ?_)
      · rw [if_pos c_21] at h
        refine lv_iload_n hx hb dX6_ruleOf_88 rfl (lv_at hl 3 rfl) ?_
        exact bw_iret (d := (z, asd, od, om, ow, ca, bo, la)) (rr := (r, z', asd', od', om', ow', ca', bo', la')) S hr hlocks h (fun q : (bw_A1 × bw_A1 × bw_A1 × Int32 × Int32 × Int32 × Int32 × Int32) => (bw_mW cy a q.1 rows q.2.1 sm buf bm th q.2.2.1 q.2.2.2.1 q.2.2.2.2.1 q.2.2.2.2.2.1 q.2.2.2.2.2.2.1 q.2.2.2.2.2.2.2 pl to rd hh)) hI rfl dX6_ruleOf_89 hQ
      rw [if_neg c_21] at h
      refine lv_aload_n hx hb dX6_ruleOf_24 rfl (lv_at hl 0 rfl) ?_
      obtain ⟨asd_25, hc, h⟩ := bw_b1_e h
      refine bw_callV S hK hZ hI (mX6_putAside l G cy g a z rows asd sm buf bm th od om ow ca bo la pl to rd hh asd_25 hc) Y_X6_putAside V_X6_putAside l_X6_198 ⟨(Nat.le_of_ble_eq_true rfl), (Nat.le_of_ble_eq_true rfl)⟩ (q0 := 0) rfl rfl rfl (ws' := (bw_mW cy a z rows asd_25 sm buf bm th od om ow ca bo la pl to rd hh)) (bw_pS _) (bw_pS' _) rfl rfl hl.1 (rest := []) (st1 := []) rfl rfl (Nat.le_of_ble_eq_true rfl) dX6_ruleOf_25 ⟨(Nat.le_of_ble_eq_true rfl), (Nat.le_of_ble_eq_true rfl)⟩ (fun H locs hI => ?_)
      refine lv_aload_n hx hb dX6_ruleOf_28 rfl (lv_at hl 0 rfl) ?_
      refine bw_get S hK hI 0 0 rfl rfl (by decide) i_X6 f_X6_7 rfl dX6_ruleOf_29 ?_
      refine lv_iconst (v := 3) hx hb dX6_ruleOf_32 rfl ?_
      refine lv_iload hx hb dX6_ruleOf_33 (lv_at hl 5 rfl) ?_
      obtain ⟨z_35, hv, h⟩ := bw_b1_e h
      refine bw_iast hx hb hK hI 1 (ws' := (bw_mW cy a z_35 rows asd_25 sm buf bm th od om ow ca bo la pl to rd hh)) hv rfl rfl dX6_ruleOf_35 (fun H locs hI => ?_)
      refine lv_aload_n hx hb dX6_ruleOf_36 rfl (lv_at hl 0 rfl) ?_
      refine lv_iload_n hx hb dX6_ruleOf_37 rfl (lv_at hl 1 rfl) ?_
      refine lv_iload_n hx hb dX6_ruleOf_38 rfl (lv_at hl 2 rfl) ?_
      obtain ⟨z_39, od_39, om_39, ow_39, ca_39, bo_39, la_39, hc, h⟩ := bw_b7_e h
      refine bw_callV S hK hZ hI (mX6_doNow l G cy g a z_35 rows asd_25 sm buf bm th od om ow ca bo la pl to rd hh x1 x2 z_39 od_39 om_39 ow_39 ca_39 bo_39 la_39 hc) Y_X6_doNow V_X6_doNow l_X6_132 ⟨(Nat.le_of_ble_eq_true rfl), (Nat.le_of_ble_eq_true rfl)⟩ (q0 := 0) rfl rfl rfl (ws' := (bw_mW cy a z_39 rows asd_25 sm buf bm th od_39 om_39 ow_39 ca_39 bo_39 la_39 pl to rd hh)) (bw_pS _) (bw_pS' _) rfl rfl hl.1 (rest := []) (st1 := []) rfl rfl (Nat.le_of_ble_eq_true rfl) dX6_ruleOf_39 ⟨(Nat.le_of_ble_eq_true rfl), (Nat.le_of_ble_eq_true rfl)⟩ (fun H locs hI => ?_)
      refine lv_aload_n hx hb dX6_ruleOf_42 rfl (lv_at hl 0 rfl) ?_
      obtain ⟨r43, hc, h⟩ := bw_b1_e h
      refine bw_callV S hK hZ hI (mX6_leastLeft l G cy g a z_39 rows asd_25 sm buf bm th od_39 om_39 ow_39 ca_39 bo_39 la_39 pl to rd hh r43 hc) Y_X6_leastLeft V_X6_leastLeft l_X6_214 ⟨(Nat.le_of_ble_eq_true rfl), (Nat.le_of_ble_eq_true rfl)⟩ (q0 := 0) rfl rfl rfl (ws' := (bw_mW cy a z_39 rows asd_25 sm buf bm th od_39 om_39 ow_39 ca_39 bo_39 la_39 pl to rd hh)) (bw_pS _) (bw_pS' _) rfl rfl hl.1 (rest := []) (st1 := [.int r43]) rfl rfl (Nat.le_of_ble_eq_true rfl) dX6_ruleOf_43 ⟨(Nat.le_of_ble_eq_true rfl), (Nat.le_of_ble_eq_true rfl)⟩ (fun H locs hI => ?_)
      refine lv_istore (lv' := [(6, .int r43), (0, .ref (a 0)), (1, .int x1), (2, .int x2), (3, .int x3), (4, .int x4), (5, .int x5)]) hx hb dX6_ruleOf_46 hl (by decide) rfl (fun ls hl => ?_)
      refine lv_aload_n hx hb dX6_ruleOf_48 rfl (lv_at hl 1 rfl) ?_
      obtain ⟨z_49, hc, h⟩ := bw_b1_e h
      refine bw_callV S hK hZ hI (mX6_putBack l G cy g a z_39 rows asd_25 sm buf bm th od_39 om_39 ow_39 ca_39 bo_39 la_39 pl to rd hh z_49 hc) Y_X6_putBack V_X6_putBack l_X6_201 ⟨(Nat.le_of_ble_eq_true rfl), (Nat.le_of_ble_eq_true rfl)⟩ (q0 := 0) rfl rfl rfl (ws' := (bw_mW cy a z_49 rows asd_25 sm buf bm th od_39 om_39 ow_39 ca_39 bo_39 la_39 pl to rd hh)) (bw_pS _) (bw_pS' _) rfl rfl hl.1 (rest := []) (st1 := []) rfl rfl (Nat.le_of_ble_eq_true rfl) dX6_ruleOf_49 ⟨(Nat.le_of_ble_eq_true rfl), (Nat.le_of_ble_eq_true rfl)⟩ (fun H locs hI => ?_)
      refine lv_iload hx hb dX6_ruleOf_52 (lv_at hl 0 rfl) ?_
      refine lv_iload hx hb dX6_ruleOf_54 (lv_at hl 5 rfl) ?_
      refine lv_icmp_le (tgt := 64) hx hb dX6_ruleOf_56 (by decide) (fun c_56 => ?_) (fun c_56 => ?_)
      · rw [if_pos c_56] at h
        refine lv_iload_n hx hb dX6_ruleOf_64 rfl (lv_at hl 4 rfl) ?_
        exact j65 z_49 asd_25 od_39 om_39 ow_39 ca_39 bo_39 la_39 x1 x2 x4 x5 r43 x3 (lX6_ruleOf_18 x1 x2 n) ih _ _ _ h hI (lv_sub hl [1,2,3,5,6,0] rfl)
      rw [if_neg c_56] at h
      refine lv_iload hx hb dX6_ruleOf_59 (lv_at hl 6 rfl) ?_
      refine lv_goto (tgt := 65) hx hb dX6_ruleOf_61 (by decide) ?_
      exact j65 z_49 asd_25 od_39 om_39 ow_39 ca_39 bo_39 la_39 x1 x2 x4 x5 r43 x5 (lX6_ruleOf_18 x1 x2 n) ih _ _ _ h hI (lv_sub hl [1,2,3,5,6,0] rfl)
  unfold fX6_ruleOf at h
  refine lv_aload_n hx hb dX6_ruleOf_0 rfl (lv_at hl 0 rfl) ?_
  refine lv_iload_n hx hb dX6_ruleOf_1 rfl (lv_at hl 1 rfl) ?_
  obtain ⟨r2, hc, h⟩ := bw_b1_e h
  refine bw_callV S hK hZ hI (mX6_mayDo l G cy g a z rows asd sm buf bm th od om ow ca bo la pl to rd hh p1 r2 hc) Y_X6_mayDo V_X6_mayDo l_X6_129 ⟨(Nat.le_of_ble_eq_true rfl), (Nat.le_of_ble_eq_true rfl)⟩ (q0 := 0) rfl rfl rfl (ws' := (bw_mW cy a z rows asd sm buf bm th od om ow ca bo la pl to rd hh)) (bw_pS _) (bw_pS' _) rfl rfl hl.1 (rest := []) (st1 := [.int r2]) rfl rfl (Nat.le_of_ble_eq_true rfl) dX6_ruleOf_2 ⟨(Nat.le_of_ble_eq_true rfl), (Nat.le_of_ble_eq_true rfl)⟩ (fun H locs hI => ?_)
  refine lv_if_ne (tgt := 10) hx hb dX6_ruleOf_5 (by decide) (fun c_5 => ?_) (fun c_5 => ?_)
  · rw [if_neg c_5] at h
    refine lv_iconst (v := (-1)) hx hb dX6_ruleOf_10 rfl ?_
    refine lv_istore_n (lv' := [(3, .int (-1)), (0, .ref (a 0)), (1, .int p1), (2, .int p2)]) hx hb dX6_ruleOf_11 rfl hl (by decide) rfl (fun ls hl => ?_)
    refine lv_iconst (v := (-1)) hx hb dX6_ruleOf_12 rfl ?_
    refine lv_istore (lv' := [(4, .int (-1)), (3, .int (-1)), (0, .ref (a 0)), (1, .int p1), (2, .int p2)]) hx hb dX6_ruleOf_13 hl (by decide) rfl (fun ls hl => ?_)
    refine lv_iconst (v := 0) hx hb dX6_ruleOf_15 rfl ?_
    refine lv_istore (lv' := [(5, .int 0), (4, .int (-1)), (3, .int (-1)), (0, .ref (a 0)), (1, .int p1), (2, .int p2)]) hx hb dX6_ruleOf_16 hl (by decide) rfl (fun ls hl => ?_)
    exact l18 p1 p2 bw_fu _ _ _ z asd od om ow ca bo la (-1) (-1) 0 h hI (lv_sub hl [3,4,5,2,1,0] rfl)
  rw [if_pos c_5] at h
  refine lv_iconst (v := (-1)) hx hb dX6_ruleOf_8 rfl ?_
  exact bw_iret (d := (z, asd, od, om, ow, ca, bo, la)) (rr := (r, z', asd', od', om', ow', ca', bo', la')) S hr hlocks h (fun q : (bw_A1 × bw_A1 × bw_A1 × Int32 × Int32 × Int32 × Int32 × Int32) => (bw_mW cy a q.1 rows q.2.1 sm buf bm th q.2.2.1 q.2.2.2.1 q.2.2.2.2.1 q.2.2.2.2.2.1 q.2.2.2.2.2.2.1 q.2.2.2.2.2.2.2 pl to rd hh)) hI rfl dX6_ruleOf_9 hQ
set_option maxHeartbeats 4000000 in
set_option maxRecDepth 100000 in
theorem mX6_bestRule (l : Launch) (G : va_G) (cy : Nat → ClassId) (g : Nat) (a : Nat → Nat) (z : bw_A1) (rows : bw_A1) (asd : bw_A1) (sm : Int32) (buf : bw_A1) (bm : Int32) (th : Int32) (od : bw_A1) (om : Int32) (ow : Int32) (ca : Int32) (bo : Int32) (la : Int32) (pl : Int32) (to : Int32) (rd : bw_A1) (hh : Int64) (p1 : Int32) (p2 : Int32) (r : Int32) (z' : bw_A1) (asd' : bw_A1) (th' : Int32) (od' : bw_A1) (om' : Int32) (ow' : Int32) (ca' : Int32) (bo' : Int32) (la' : Int32) (h : fX6_bestRule z asd th od om ow ca bo la p1 p2 = some (r, z', asd', th', od', om', ow', ca', bo', la')) : bw_M l yX6_bestRule cX6_bestRule 3 (some .int) 9 210 G cy g [.ref (a 0), .int p1, .int p2] (bw_mW cy a z rows asd sm buf bm th od om ow ca bo la pl to rd hh) (some (.int r)) (bw_mW cy a z' rows asd' sm buf bm th' od' om' ow' ca' bo' la' pl to rd hh) := by
  refine bw_ofW (by decide +kernel) RX6 rfl (Nat.le_of_ble_eq_true rfl) ?_
  intro p e s m below meth c ls S hr hlocks hK hZ hI hl
  have hx := S.1
  have hb := S.2.1
  have hown := S.2.2.2.1
  have hts := S.2.2.2.2
  generalize va_A _ s.heap.size = A at hI hZ ⊢
  generalize hQ : MQ below _ _ s 0 0 A = Q
  have hl : lv_has ls 3 [(0, .ref (a 0)), (1, .int p1), (2, .int p2)] := hl
  unfold fX6_bestRule at h
  refine lv_aload_n hx hb dX6_bestRule_0 rfl (lv_at hl 0 rfl) ?_
  refine lv_iconst (v := 0) hx hb dX6_bestRule_1 rfl ?_
  refine bw_put S hK hI 0 6 (ws' := (bw_mW cy a z rows asd sm buf bm 0 od om ow ca bo la pl to rd hh)) tyX6 tyX6_ok nmX6 rfl rfl (by decide) i_X6 f_X6_28 rfl rfl rfl rfl (Nat.le_of_ble_eq_true rfl) rfl dX6_bestRule_2 (fun H locs hI => ?_)
  refine lv_aload_n hx hb dX6_bestRule_5 rfl (lv_at hl 0 rfl) ?_
  refine lv_iload_n hx hb dX6_bestRule_6 rfl (lv_at hl 1 rfl) ?_
  obtain ⟨r7, hc, h⟩ := bw_b1_e h
  refine bw_callV S hK hZ hI (mX6_isProject l G cy g a z rows asd sm buf bm 0 od om ow ca bo la pl to rd hh p1 r7 hc) Y_X6_isProject V_X6_isProject l_X6_123 ⟨(Nat.le_of_ble_eq_true rfl), (Nat.le_of_ble_eq_true rfl)⟩ (q0 := 0) rfl rfl rfl (ws' := (bw_mW cy a z rows asd sm buf bm 0 od om ow ca bo la pl to rd hh)) (bw_pS _) (bw_pS' _) rfl rfl hl.1 (rest := []) (st1 := [.int r7]) rfl rfl (Nat.le_of_ble_eq_true rfl) dX6_bestRule_7 ⟨(Nat.le_of_ble_eq_true rfl), (Nat.le_of_ble_eq_true rfl)⟩ (fun H locs hI => ?_)
  refine lv_if_ne (tgt := 19) hx hb dX6_bestRule_10 (by decide) (fun c_10 => ?_) (fun c_10 => ?_)
  · rw [if_neg c_10] at h
    refine lv_iload_n hx hb dX6_bestRule_19 rfl (lv_at hl 2 rfl) ?_
    refine lv_iconst (v := 0) hx hb dX6_bestRule_20 rfl ?_
    refine lv_sipush (v := 300) hx hb dX6_bestRule_21 (by decide) ?_
    obtain ⟨r24, hc, h⟩ := bw_b1_e h
    refine bw_callP S hK hZ hI (mX6_in l G cy g p2 0 300 r24 hc) Y_X6_in V_X6_in l_X6_35 ⟨(Nat.le_of_ble_eq_true rfl), (Nat.le_of_ble_eq_true rfl)⟩ (rest := []) (st1 := [.int r24]) rfl hl.1 rfl rfl (Nat.le_of_ble_eq_true rfl) dX6_bestRule_24 ⟨(Nat.le_of_ble_eq_true rfl), (Nat.le_of_ble_eq_true rfl)⟩ (fun H locs hI => ?_)
    refine lv_if_eq (tgt := 39) hx hb dX6_bestRule_27 (by decide) (fun c_27 => ?_) (fun c_27 => ?_)
    · rw [if_pos c_27] at h
      refine lv_aload_n hx hb dX6_bestRule_39 rfl (lv_at hl 0 rfl) ?_
      refine lv_iconst (v := 2) hx hb dX6_bestRule_40 rfl ?_
      obtain ⟨r41, th_41, hc, h⟩ := bw_b2_e h
      refine bw_callV S hK hZ hI (mX6_fails l G cy g a z rows asd sm buf bm 0 od om ow ca bo la pl to rd hh 2 r41 th_41 hc) Y_X6_fails V_X6_fails l_X6_114 ⟨(Nat.le_of_ble_eq_true rfl), (Nat.le_of_ble_eq_true rfl)⟩ (q0 := 0) rfl rfl rfl (ws' := (bw_mW cy a z rows asd sm buf bm th_41 od om ow ca bo la pl to rd hh)) (bw_pS _) (bw_pS' _) rfl rfl hl.1 (rest := []) (st1 := [.int r41]) rfl rfl (Nat.le_of_ble_eq_true rfl) dX6_bestRule_41 ⟨(Nat.le_of_ble_eq_true rfl), (Nat.le_of_ble_eq_true rfl)⟩ (fun H locs hI => ?_)
      exact bw_iret (d := (z, asd, th_41, od, om, ow, ca, bo, la)) (rr := (r, z', asd', th', od', om', ow', ca', bo', la')) S hr hlocks h (fun q : (bw_A1 × bw_A1 × Int32 × bw_A1 × Int32 × Int32 × Int32 × Int32 × Int32) => (bw_mW cy a q.1 rows q.2.1 sm buf bm q.2.2.1 q.2.2.2.1 q.2.2.2.2.1 q.2.2.2.2.2.1 q.2.2.2.2.2.2.1 q.2.2.2.2.2.2.2.1 q.2.2.2.2.2.2.2.2 pl to rd hh)) hI rfl dX6_bestRule_44 hQ
    rw [if_neg c_27] at h
    refine lv_aload_n hx hb dX6_bestRule_30 rfl (lv_at hl 0 rfl) ?_
    refine lv_iload_n hx hb dX6_bestRule_31 rfl (lv_at hl 1 rfl) ?_
    refine lv_iload_n hx hb dX6_bestRule_32 rfl (lv_at hl 2 rfl) ?_
    obtain ⟨r33, z_33, asd_33, od_33, om_33, ow_33, ca_33, bo_33, la_33, hc, h⟩ := bw_b9_e h
    refine bw_callV S hK hZ hI (mX6_ruleOf l G cy g a z rows asd sm buf bm 0 od om ow ca bo la pl to rd hh p1 p2 r33 z_33 asd_33 od_33 om_33 ow_33 ca_33 bo_33 la_33 hc) Y_X6_ruleOf V_X6_ruleOf l_X6_217 ⟨(Nat.le_of_ble_eq_true rfl), (Nat.le_of_ble_eq_true rfl)⟩ (q0 := 0) rfl rfl rfl (ws' := (bw_mW cy a z_33 rows asd_33 sm buf bm 0 od_33 om_33 ow_33 ca_33 bo_33 la_33 pl to rd hh)) (bw_pS _) (bw_pS' _) rfl rfl hl.1 (rest := []) (st1 := [.int r33]) rfl rfl (Nat.le_of_ble_eq_true rfl) dX6_bestRule_33 ⟨(Nat.le_of_ble_eq_true rfl), (Nat.le_of_ble_eq_true rfl)⟩ (fun H locs hI => ?_)
    refine lv_goto (tgt := 44) hx hb dX6_bestRule_36 (by decide) ?_
    exact bw_iret (d := (z_33, asd_33, 0, od_33, om_33, ow_33, ca_33, bo_33, la_33)) (rr := (r, z', asd', th', od', om', ow', ca', bo', la')) S hr hlocks h (fun q : (bw_A1 × bw_A1 × Int32 × bw_A1 × Int32 × Int32 × Int32 × Int32 × Int32) => (bw_mW cy a q.1 rows q.2.1 sm buf bm q.2.2.1 q.2.2.2.1 q.2.2.2.2.1 q.2.2.2.2.2.1 q.2.2.2.2.2.2.1 q.2.2.2.2.2.2.2.1 q.2.2.2.2.2.2.2.2 pl to rd hh)) hI rfl dX6_bestRule_44 hQ
  rw [if_pos c_10] at h
  refine lv_aload_n hx hb dX6_bestRule_13 rfl (lv_at hl 0 rfl) ?_
  refine lv_iconst (v := 1) hx hb dX6_bestRule_14 rfl ?_
  obtain ⟨r15, th_15, hc, h⟩ := bw_b2_e h
  refine bw_callV S hK hZ hI (mX6_fails l G cy g a z rows asd sm buf bm 0 od om ow ca bo la pl to rd hh 1 r15 th_15 hc) Y_X6_fails V_X6_fails l_X6_114 ⟨(Nat.le_of_ble_eq_true rfl), (Nat.le_of_ble_eq_true rfl)⟩ (q0 := 0) rfl rfl rfl (ws' := (bw_mW cy a z rows asd sm buf bm th_15 od om ow ca bo la pl to rd hh)) (bw_pS _) (bw_pS' _) rfl rfl hl.1 (rest := []) (st1 := [.int r15]) rfl rfl (Nat.le_of_ble_eq_true rfl) dX6_bestRule_15 ⟨(Nat.le_of_ble_eq_true rfl), (Nat.le_of_ble_eq_true rfl)⟩ (fun H locs hI => ?_)
  exact bw_iret (d := (z, asd, th_15, od, om, ow, ca, bo, la)) (rr := (r, z', asd', th', od', om', ow', ca', bo', la')) S hr hlocks h (fun q : (bw_A1 × bw_A1 × Int32 × bw_A1 × Int32 × Int32 × Int32 × Int32 × Int32) => (bw_mW cy a q.1 rows q.2.1 sm buf bm q.2.2.1 q.2.2.2.1 q.2.2.2.2.1 q.2.2.2.2.2.1 q.2.2.2.2.2.2.1 q.2.2.2.2.2.2.2.1 q.2.2.2.2.2.2.2.2 pl to rd hh)) hI rfl dX6_bestRule_18 hQ
set_option maxHeartbeats 4000000 in
set_option maxRecDepth 100000 in
theorem mX6_shareOf (l : Launch) (G : va_G) (cy : Nat → ClassId) (g : Nat) (a : Nat → Nat) (z : bw_A1) (rows : bw_A1) (asd : bw_A1) (sm : Int32) (buf : bw_A1) (bm : Int32) (th : Int32) (od : bw_A1) (om : Int32) (ow : Int32) (ca : Int32) (bo : Int32) (la : Int32) (pl : Int32) (to : Int32) (rd : bw_A1) (hh : Int64) (r : UInt64) (h : fX6_shareOf z = some r) : bw_M l yX6_shareOf cX6_shareOf 2 (some .double) 5 110 G cy g [.ref (a 0)] (bw_mW cy a z rows asd sm buf bm th od om ow ca bo la pl to rd hh) (some (.double r)) (bw_mW cy a z rows asd sm buf bm th od om ow ca bo la pl to rd hh) := by
  refine bw_ofW (by decide +kernel) RX6 rfl (Nat.le_of_ble_eq_true rfl) ?_
  intro p e s m below meth c ls S hr hlocks hK hZ hI hl
  have hx := S.1
  have hb := S.2.1
  have hown := S.2.2.2.1
  have hts := S.2.2.2.2
  generalize va_A _ s.heap.size = A at hI hZ ⊢
  generalize hQ : MQ below _ _ s 0 0 A = Q
  have hl : lv_has ls 2 [(0, .ref (a 0))] := hl
  unfold fX6_shareOf at h
  refine lv_aload_n hx hb dX6_shareOf_0 rfl (lv_at hl 0 rfl) ?_
  obtain ⟨r1, hc, h⟩ := bw_b1_e h
  refine bw_callV S hK hZ hI (mX6_delays l G cy g a z rows asd sm buf bm th od om ow ca bo la pl to rd hh r1 hc) Y_X6_delays V_X6_delays l_X6_192 ⟨(Nat.le_of_ble_eq_true rfl), (Nat.le_of_ble_eq_true rfl)⟩ (q0 := 0) rfl rfl rfl (ws' := (bw_mW cy a z rows asd sm buf bm th od om ow ca bo la pl to rd hh)) (bw_pS _) (bw_pS' _) rfl rfl hl.1 (rest := []) (st1 := [.int r1]) rfl rfl (Nat.le_of_ble_eq_true rfl) dX6_shareOf_1 ⟨(Nat.le_of_ble_eq_true rfl), (Nat.le_of_ble_eq_true rfl)⟩ (fun H locs hI => ?_)
  refine lv_istore_n (lv' := [(1, .int r1), (0, .ref (a 0))]) hx hb dX6_shareOf_4 rfl hl (by decide) rfl (fun ls hl => ?_)
  refine lv_iload_n hx hb dX6_shareOf_5 rfl (lv_at hl 0 rfl) ?_
  refine lv_if_ne (tgt := 13) hx hb dX6_shareOf_6 (by decide) (fun c_6 => ?_) (fun c_6 => ?_)
  · rw [if_neg c_6] at h
    refine lv_aload_n hx hb dX6_shareOf_13 rfl (lv_at hl 1 rfl) ?_
    refine lv_bipush (v := 6) hx hb dX6_shareOf_14 (by decide) ?_
    obtain ⟨r16, hc, h⟩ := bw_b1_e h
    refine bw_callV S hK hZ hI (mX6_ofProjects l G cy g a z rows asd sm buf bm th od om ow ca bo la pl to rd hh 6 r16 hc) Y_X6_ofProjects V_X6_ofProjects l_X6_189 ⟨(Nat.le_of_ble_eq_true rfl), (Nat.le_of_ble_eq_true rfl)⟩ (q0 := 0) rfl rfl rfl (ws' := (bw_mW cy a z rows asd sm buf bm th od om ow ca bo la pl to rd hh)) (bw_pS _) (bw_pS' _) rfl rfl hl.1 (rest := []) (st1 := [.int r16]) rfl rfl (Nat.le_of_ble_eq_true rfl) dX6_shareOf_16 ⟨(Nat.le_of_ble_eq_true rfl), (Nat.le_of_ble_eq_true rfl)⟩ (fun H locs hI => ?_)
    refine lv_i2d hx hb dX6_shareOf_19 ?_
    refine lv_iload_n hx hb dX6_shareOf_20 rfl (lv_at hl 0 rfl) ?_
    refine lv_i2d hx hb dX6_shareOf_21 ?_
    obtain ⟨w22, e_22⟩ : ∃ y : UInt64, y = FP.ddiv (FP.i2d r16) (FP.i2d r1) := ⟨_, rfl⟩
    have h := bw_let_e h e_22
    obtain ⟨h9, h⟩ := bw_num_e h
    refine lv_ddiv hx hb dX6_shareOf_22 (by rw [← e_22]; exact h9) ?_
    rw [← e_22]
    exact bw_dretP S hr hlocks h hI dX6_shareOf_23 hQ
  rw [if_pos c_6] at h
  refine lv_dconst0 hx hb dX6_shareOf_9 ?_
  refine lv_goto (tgt := 23) hx hb dX6_shareOf_10 (by decide) ?_
  exact bw_dretP S hr hlocks h hI dX6_shareOf_23 hQ
set_option maxHeartbeats 4000000 in
set_option maxRecDepth 100000 in
theorem mX6_lateShare (l : Launch) (G : va_G) (cy : Nat → ClassId) (g : Nat) (a : Nat → Nat) (z : bw_A1) (rows : bw_A1) (asd : bw_A1) (sm : Int32) (buf : bw_A1) (bm : Int32) (th : Int32) (od : bw_A1) (om : Int32) (ow : Int32) (ca : Int32) (bo : Int32) (la : Int32) (pl : Int32) (to : Int32) (rd : bw_A1) (hh : Int64) (r : UInt64) (th' : Int32) (h : fX6_lateShare z th = some (r, th')) : bw_M l yX6_lateShare cX6_lateShare 1 (some .double) 6 131 G cy g [.ref (a 0)] (bw_mW cy a z rows asd sm buf bm th od om ow ca bo la pl to rd hh) (some (.double r)) (bw_mW cy a z rows asd sm buf bm th' od om ow ca bo la pl to rd hh) := by
  refine bw_ofW (by decide +kernel) RX6 rfl (Nat.le_of_ble_eq_true rfl) ?_
  intro p e s m below meth c ls S hr hlocks hK hZ hI hl
  have hx := S.1
  have hb := S.2.1
  have hown := S.2.2.2.1
  have hts := S.2.2.2.2
  generalize va_A _ s.heap.size = A at hI hZ ⊢
  generalize hQ : MQ below _ _ s 0 0 A = Q
  have hl : lv_has ls 1 [(0, .ref (a 0))] := hl
  unfold fX6_lateShare at h
  refine lv_aload_n hx hb dX6_lateShare_0 rfl (lv_at hl 0 rfl) ?_
  refine lv_iconst (v := 0) hx hb dX6_lateShare_1 rfl ?_
  refine bw_put S hK hI 0 6 (ws' := (bw_mW cy a z rows asd sm buf bm 0 od om ow ca bo la pl to rd hh)) tyX6 tyX6_ok nmX6 rfl rfl (by decide) i_X6 f_X6_28 rfl rfl rfl rfl (Nat.le_of_ble_eq_true rfl) rfl dX6_lateShare_2 (fun H locs hI => ?_)
  refine lv_aload_n hx hb dX6_lateShare_5 rfl (lv_at hl 0 rfl) ?_
  obtain ⟨r6, hc, h⟩ := bw_b1_e h
  refine bw_callV S hK hZ hI (mX6_shareOf l G cy g a z rows asd sm buf bm 0 od om ow ca bo la pl to rd hh r6 hc) Y_X6_shareOf V_X6_shareOf l_X6_220 ⟨(Nat.le_of_ble_eq_true rfl), (Nat.le_of_ble_eq_true rfl)⟩ (q0 := 0) rfl rfl rfl (ws' := (bw_mW cy a z rows asd sm buf bm 0 od om ow ca bo la pl to rd hh)) (bw_pS _) (bw_pS' _) rfl rfl hl.1 (rest := []) (st1 := [.double r6]) rfl rfl (Nat.le_of_ble_eq_true rfl) dX6_lateShare_6 ⟨(Nat.le_of_ble_eq_true rfl), (Nat.le_of_ble_eq_true rfl)⟩ (fun H locs hI => ?_)
  exact bw_dret (d := 0) (rr := (r, th')) S hr hlocks h (fun q : Int32 => (bw_mW cy a z rows asd sm buf bm q od om ow ca bo la pl to rd hh)) hI dX6_lateShare_9 hQ
set_option maxHeartbeats 4000000 in
set_option maxRecDepth 100000 in
theorem mX6_mix (l : Launch) (G : va_G) (cy : Nat → ClassId) (g : Nat) (a : Nat → Nat) (z : bw_A1) (rows : bw_A1) (asd : bw_A1) (sm : Int32) (buf : bw_A1) (bm : Int32) (th : Int32) (od : bw_A1) (om : Int32) (ow : Int32) (ca : Int32) (bo : Int32) (la : Int32) (pl : Int32) (to : Int32) (rd : bw_A1) (hh : Int64) (p1 : Int64) (hh' : Int64) (h : fX6_mix hh p1 = some hh') : bw_M l yX6_mix cX6_mix 3 none 0 0 G cy g [.ref (a 0), .long p1] (bw_mW cy a z rows asd sm buf bm th od om ow ca bo la pl to rd hh) none (bw_mW cy a z rows asd sm buf bm th od om ow ca bo la pl to rd hh') := by
  refine bw_ofW (by decide +kernel) RX6 rfl (Nat.le_of_ble_eq_true rfl) ?_
  intro p e s m below meth c ls S hr hlocks hK hZ hI hl
  have hx := S.1
  have hb := S.2.1
  have hown := S.2.2.2.1
  have hts := S.2.2.2.2
  generalize va_A _ s.heap.size = A at hI hZ ⊢
  generalize hQ : MQ below _ _ s 0 0 A = Q
  have hl : lv_has ls 3 [(0, .ref (a 0)), (1, .long p1)] := hl
  unfold fX6_mix at h
  refine lv_aload_n hx hb dX6_mix_0 rfl (lv_at hl 0 rfl) ?_
  refine lv_ldc2 hx hb hown (hts _ (List.mem_cons_of_mem _ k_X6_224)) dX6_mix_1 ?_
  refine lv_aload_n hx hb dX6_mix_4 rfl (lv_at hl 0 rfl) ?_
  refine bw_get S hK hI 0 16 rfl rfl (by decide) i_X6 f_X6_226 rfl dX6_mix_5 ?_
  refine lv_lmul hx hb dX6_mix_8 ?_
  refine lv_lload_n hx hb dX6_mix_9 rfl (lv_at hl 1 rfl) ?_
  refine lv_ladd hx hb dX6_mix_10 ?_
  refine lv_topl (fun hh_11 e_11 => ?_)
  have h := bw_let_e h e_11
  clear e_11
  refine bw_put S hK hI 0 16 (ws' := (bw_mW cy a z rows asd sm buf bm th od om ow ca bo la pl to rd hh_11)) tyX6 tyX6_ok nmX6 rfl rfl (by decide) i_X6 f_X6_226 rfl rfl rfl rfl (Nat.le_of_ble_eq_true rfl) rfl dX6_mix_11 (fun H locs hI => ?_)
  exact bw_vret (d := hh_11) (rr := hh') S hr hlocks h (fun q : Int64 => (bw_mW cy a z rows asd sm buf bm th od om ow ca bo la pl to rd q)) hI dX6_mix_14 hQ
set_option maxHeartbeats 4000000 in
set_option maxRecDepth 100000 in
theorem mX6_mixProject (l : Launch) (G : va_G) (cy : Nat → ClassId) (g : Nat) (a : Nat → Nat) (z : bw_A1) (rows : bw_A1) (asd : bw_A1) (sm : Int32) (buf : bw_A1) (bm : Int32) (th : Int32) (od : bw_A1) (om : Int32) (ow : Int32) (ca : Int32) (bo : Int32) (la : Int32) (pl : Int32) (to : Int32) (rd : bw_A1) (hh : Int64) (p1 : Int32) (z' : bw_A1) (asd' : bw_A1) (od' : bw_A1) (om' : Int32) (ow' : Int32) (ca' : Int32) (bo' : Int32) (la' : Int32) (hh' : Int64) (h : fX6_mixProject z asd od om ow ca bo la hh p1 = some (z', asd', od', om', ow', ca', bo', la', hh')) : bw_M l yX6_mixProject cX6_mixProject 4 none 9 210 G cy g [.ref (a 0), .int p1] (bw_mW cy a z rows asd sm buf bm th od om ow ca bo la pl to rd hh) none (bw_mW cy a z' rows asd' sm buf bm th od' om' ow' ca' bo' la' pl to rd hh') := by
  refine bw_ofW (by decide +kernel) RX6 rfl (Nat.le_of_ble_eq_true rfl) ?_
  intro p e s m below meth c ls S hr hlocks hK hZ hI hl
  have hx := S.1
  have hb := S.2.1
  have hown := S.2.2.2.1
  have hts := S.2.2.2.2
  generalize va_A _ s.heap.size = A at hI hZ ⊢
  generalize hQ : MQ below _ _ s 0 0 A = Q
  have hl : lv_has ls 4 [(0, .ref (a 0)), (1, .int p1)] := hl
  have l148 : ∀ (z : bw_A1) (asd : bw_A1) (od : bw_A1) (om : Int32) (ow : Int32) (ca : Int32) (bo : Int32) (la : Int32) (x1 : Int32) (n : Nat) (H : Heap) (locs : List Loc) (ls : Array Slot) (hh : Int64) (x2 : Int32), lX6_mixProject_148 z asd od om ow ca bo la x1 n hh x2 = some (z', asd', od', om', ow', ca', bo', la', hh') → bw_I G A s.heap (bw_mW cy a z rows asd sm buf bm th od om ow ca bo la pl to rd hh) H locs → lv_has ls 4 [(0, .ref (a 0)), (1, .int x1), (2, .int x2)] → W p l e (bw_rm 9 210) s m [.ref (a 0), .int p1].toArray below meth c H locs 0 0 Q (F0 m 148 ls []) := by
    intro z asd od om ow ca bo la x1 n
    induction n with
    | zero => intro H locs ls hh x2 h; exact bw_none h
    | succ n ih =>
      intro H locs ls hh x2 h hI hl
      have h : bX6_mixProject_148  (lX6_mixProject_148 z asd od om ow ca bo la x1 n) z asd od om ow ca bo la x1 hh x2 = some (z', asd', od', om', ow', ca', bo', la', hh') := h
      unfold bX6_mixProject_148 at h
      refine lv_iload_n hx hb dX6_mixProject_148 rfl (lv_at hl 2 rfl) ?_
      refine lv_aload_n hx hb dX6_mixProject_149 rfl (lv_at hl 0 rfl) ?_
      refine bw_get S hK hI 0 0 rfl rfl (by decide) i_X6 f_X6_7 rfl dX6_mixProject_150 ?_
      refine lv_iconst (v := 0) hx hb dX6_mixProject_153 rfl ?_
      obtain ⟨v154, hv, h⟩ := bw_b1_e h
      refine bw_iald hx hb hK hI 1 hv rfl dX6_mixProject_154 ?_
      refine lv_icmp_ge (tgt := 175) hx hb dX6_mixProject_155 (by decide) (fun c_155 => ?_) (fun c_155 => ?_)
      · rw [if_pos c_155] at h
        exact bw_vret (d := (z, asd, od, om, ow, ca, bo, la, hh)) (rr := (z', asd', od', om', ow', ca', bo', la', hh')) S hr hlocks h (fun q : (bw_A1 × bw_A1 × bw_A1 × Int32 × Int32 × Int32 × Int32 × Int32 × Int64) => (bw_mW cy a q.1 rows q.2.1 sm buf bm th q.2.2.1 q.2.2.2.1 q.2.2.2.2.1 q.2.2.2.2.2.1 q.2.2.2.2.2.2.1 q.2.2.2.2.2.2.2.1 pl to rd q.2.2.2.2.2.2.2.2)) hI dX6_mixProject_175 hQ
      rw [if_neg c_155] at h
      refine lv_aload_n hx hb dX6_mixProject_158 rfl (lv_at hl 0 rfl) ?_
      refine lv_aload_n hx hb dX6_mixProject_159 rfl (lv_at hl 0 rfl) ?_
      refine lv_iload_n hx hb dX6_mixProject_160 rfl (lv_at hl 1 rfl) ?_
      refine lv_iload_n hx hb dX6_mixProject_161 rfl (lv_at hl 2 rfl) ?_
      obtain ⟨r162, hc, h⟩ := bw_b1_e h
      refine bw_callV S hK hZ hI (mX6_owedOf l G cy g a z rows asd sm buf bm th od om ow ca bo la pl to rd hh x1 x2 r162 hc) Y_X6_owedOf V_X6_owedOf l_X6_135 ⟨(Nat.le_of_ble_eq_true rfl), (Nat.le_of_ble_eq_true rfl)⟩ (q0 := 0) rfl rfl rfl (ws' := (bw_mW cy a z rows asd sm buf bm th od om ow ca bo la pl to rd hh)) (bw_pS _) (bw_pS' _) rfl rfl hl.1 (rest := [.ref (a 0)]) (st1 := [.int r162, .ref (a 0)]) rfl rfl (Nat.le_of_ble_eq_true rfl) dX6_mixProject_162 ⟨(Nat.le_of_ble_eq_true rfl), (Nat.le_of_ble_eq_true rfl)⟩ (fun H locs hI => ?_)
      refine lv_i2l hx hb dX6_mixProject_165 rfl ?_
      obtain ⟨hh_166, hc, h⟩ := bw_b1_e h
      refine bw_callV S hK hZ hI (mX6_mix l G cy g a z rows asd sm buf bm th od om ow ca bo la pl to rd hh (Int32.toInt64 r162) hh_166 hc) Y_X6_mix V_X6_mix l_X6_230 ⟨(Nat.le_of_ble_eq_true rfl), (Nat.le_of_ble_eq_true rfl)⟩ (q0 := 0) rfl rfl rfl (ws' := (bw_mW cy a z rows asd sm buf bm th od om ow ca bo la pl to rd hh_166)) (bw_pS _) (bw_pS' _) rfl rfl hl.1 (rest := []) (st1 := []) rfl rfl (Nat.le_of_ble_eq_true rfl) dX6_mixProject_166 ⟨(Nat.le_of_ble_eq_true rfl), (Nat.le_of_ble_eq_true rfl)⟩ (fun H locs hI => ?_)
      obtain ⟨x2_169, e_169⟩ : ∃ y : Int32, y = x2 + 1 := ⟨_, rfl⟩
      have h := bw_let_e h e_169
      refine lv_iinc (v := x2_169) (lv' := [(2, .int x2_169), (0, .ref (a 0)), (1, .int x1)]) hx hb dX6_mixProject_169 hl (k := 2) rfl (by rw [e_169]; rfl) (by decide) rfl (fun ls hl => ?_)
      clear e_169
      refine lv_goto (tgt := 148) hx hb dX6_mixProject_172 (by decide) ?_
      exact ih _ _ _ hh_166 x2_169 h hI (lv_sub hl [1,2,0] rfl)
  have l110 : ∀ (x1 : Int32) (n : Nat) (H : Heap) (locs : List Loc) (ls : Array Slot) (z : bw_A1) (asd : bw_A1) (od : bw_A1) (om : Int32) (ow : Int32) (ca : Int32) (bo : Int32) (la : Int32) (hh : Int64) (x2 : Int32), lX6_mixProject_110 x1 n z asd od om ow ca bo la hh x2 = some (z', asd', od', om', ow', ca', bo', la', hh') → bw_I G A s.heap (bw_mW cy a z rows asd sm buf bm th od om ow ca bo la pl to rd hh) H locs → lv_has ls 4 [(0, .ref (a 0)), (1, .int x1), (2, .int x2)] → W p l e (bw_rm 9 210) s m [.ref (a 0), .int p1].toArray below meth c H locs 0 0 Q (F0 m 110 ls []) := by
    intro x1 n
    induction n with
    | zero => intro H locs ls z asd od om ow ca bo la hh x2 h; exact bw_none h
    | succ n ih =>
      intro H locs ls z asd od om ow ca bo la hh x2 h hI hl
      have h : bX6_mixProject_110  (lX6_mixProject_110 x1 n) x1 z asd od om ow ca bo la hh x2 = some (z', asd', od', om', ow', ca', bo', la', hh') := h
      unfold bX6_mixProject_110 at h
      refine lv_iload_n hx hb dX6_mixProject_110 rfl (lv_at hl 2 rfl) ?_
      refine lv_iconst (v := 5) hx hb dX6_mixProject_111 rfl ?_
      refine lv_icmp_ge (tgt := 134) hx hb dX6_mixProject_112 (by decide) (fun c_112 => ?_) (fun c_112 => ?_)
      · rw [if_pos c_112] at h
        refine lv_aload_n hx hb dX6_mixProject_134 rfl (lv_at hl 0 rfl) ?_
        refine lv_aload_n hx hb dX6_mixProject_135 rfl (lv_at hl 0 rfl) ?_
        refine lv_iload_n hx hb dX6_mixProject_136 rfl (lv_at hl 1 rfl) ?_
        refine lv_bipush (v := 60) hx hb dX6_mixProject_137 (by decide) ?_
        obtain ⟨r139, z_139, asd_139, od_139, om_139, ow_139, ca_139, bo_139, la_139, hc, h⟩ := bw_b9_e h
        refine bw_callV S hK hZ hI (mX6_ruleOf l G cy g a z rows asd sm buf bm th od om ow ca bo la pl to rd hh x1 60 r139 z_139 asd_139 od_139 om_139 ow_139 ca_139 bo_139 la_139 hc) Y_X6_ruleOf V_X6_ruleOf l_X6_217 ⟨(Nat.le_of_ble_eq_true rfl), (Nat.le_of_ble_eq_true rfl)⟩ (q0 := 0) rfl rfl rfl (ws' := (bw_mW cy a z_139 rows asd_139 sm buf bm th od_139 om_139 ow_139 ca_139 bo_139 la_139 pl to rd hh)) (bw_pS _) (bw_pS' _) rfl rfl hl.1 (rest := [.ref (a 0)]) (st1 := [.int r139, .ref (a 0)]) rfl rfl (Nat.le_of_ble_eq_true rfl) dX6_mixProject_139 ⟨(Nat.le_of_ble_eq_true rfl), (Nat.le_of_ble_eq_true rfl)⟩ (fun H locs hI => ?_)
        refine lv_i2l hx hb dX6_mixProject_142 rfl ?_
        obtain ⟨hh_143, hc, h⟩ := bw_b1_e h
        refine bw_callV S hK hZ hI (mX6_mix l G cy g a z_139 rows asd_139 sm buf bm th od_139 om_139 ow_139 ca_139 bo_139 la_139 pl to rd hh (Int32.toInt64 r139) hh_143 hc) Y_X6_mix V_X6_mix l_X6_230 ⟨(Nat.le_of_ble_eq_true rfl), (Nat.le_of_ble_eq_true rfl)⟩ (q0 := 0) rfl rfl rfl (ws' := (bw_mW cy a z_139 rows asd_139 sm buf bm th od_139 om_139 ow_139 ca_139 bo_139 la_139 pl to rd hh_143)) (bw_pS _) (bw_pS' _) rfl rfl hl.1 (rest := []) (st1 := []) rfl rfl (Nat.le_of_ble_eq_true rfl) dX6_mixProject_143 ⟨(Nat.le_of_ble_eq_true rfl), (Nat.le_of_ble_eq_true rfl)⟩ (fun H locs hI => ?_)
        refine lv_iconst (v := 0) hx hb dX6_mixProject_146 rfl ?_
        refine lv_istore_n (lv' := [(2, .int 0), (0, .ref (a 0)), (1, .int x1)]) hx hb dX6_mixProject_147 rfl hl (by decide) rfl (fun ls hl => ?_)
        exact l148 z_139 asd_139 od_139 om_139 ow_139 ca_139 bo_139 la_139 x1 bw_fu _ _ _ hh_143 0 h hI (lv_sub hl [1,2,0] rfl)
      rw [if_neg c_112] at h
      refine lv_aload_n hx hb dX6_mixProject_115 rfl (lv_at hl 0 rfl) ?_
      refine lv_aload_n hx hb dX6_mixProject_116 rfl (lv_at hl 0 rfl) ?_
      refine lv_iload_n hx hb dX6_mixProject_117 rfl (lv_at hl 1 rfl) ?_
      refine lv_bipush (v := 60) hx hb dX6_mixProject_118 (by decide) ?_
      refine lv_iload_n hx hb dX6_mixProject_120 rfl (lv_at hl 2 rfl) ?_
      obtain ⟨r121, z_121, asd_121, od_121, om_121, ow_121, ca_121, bo_121, la_121, hc, h⟩ := bw_b9_e h
      refine bw_callV S hK hZ hI (mX6_doneOf l G cy g a z rows asd sm buf bm th od om ow ca bo la pl to rd hh x1 60 x2 r121 z_121 asd_121 od_121 om_121 ow_121 ca_121 bo_121 la_121 hc) Y_X6_doneOf V_X6_doneOf l_X6_204 ⟨(Nat.le_of_ble_eq_true rfl), (Nat.le_of_ble_eq_true rfl)⟩ (q0 := 0) rfl rfl rfl (ws' := (bw_mW cy a z_121 rows asd_121 sm buf bm th od_121 om_121 ow_121 ca_121 bo_121 la_121 pl to rd hh)) (bw_pS _) (bw_pS' _) rfl rfl hl.1 (rest := [.ref (a 0)]) (st1 := [.int r121, .ref (a 0)]) rfl rfl (Nat.le_of_ble_eq_true rfl) dX6_mixProject_121 ⟨(Nat.le_of_ble_eq_true rfl), (Nat.le_of_ble_eq_true rfl)⟩ (fun H locs hI => ?_)
      refine lv_i2l hx hb dX6_mixProject_124 rfl ?_
      obtain ⟨hh_125, hc, h⟩ := bw_b1_e h
      refine bw_callV S hK hZ hI (mX6_mix l G cy g a z_121 rows asd_121 sm buf bm th od_121 om_121 ow_121 ca_121 bo_121 la_121 pl to rd hh (Int32.toInt64 r121) hh_125 hc) Y_X6_mix V_X6_mix l_X6_230 ⟨(Nat.le_of_ble_eq_true rfl), (Nat.le_of_ble_eq_true rfl)⟩ (q0 := 0) rfl rfl rfl (ws' := (bw_mW cy a z_121 rows asd_121 sm buf bm th od_121 om_121 ow_121 ca_121 bo_121 la_121 pl to rd hh_125)) (bw_pS _) (bw_pS' _) rfl rfl hl.1 (rest := []) (st1 := []) rfl rfl (Nat.le_of_ble_eq_true rfl) dX6_mixProject_125 ⟨(Nat.le_of_ble_eq_true rfl), (Nat.le_of_ble_eq_true rfl)⟩ (fun H locs hI => ?_)
      obtain ⟨x2_128, e_128⟩ : ∃ y : Int32, y = x2 + 1 := ⟨_, rfl⟩
      have h := bw_let_e h e_128
      refine lv_iinc (v := x2_128) (lv' := [(2, .int x2_128), (0, .ref (a 0)), (1, .int x1)]) hx hb dX6_mixProject_128 hl (k := 2) rfl (by rw [e_128]; rfl) (by decide) rfl (fun ls hl => ?_)
      clear e_128
      refine lv_goto (tgt := 110) hx hb dX6_mixProject_131 (by decide) ?_
      exact ih _ _ _ z_121 asd_121 od_121 om_121 ow_121 ca_121 bo_121 la_121 hh_125 x2_128 h hI (lv_sub hl [1,2,0] rfl)
  have l76 : ∀ (z : bw_A1) (asd : bw_A1) (ow : Int32) (ca : Int32) (bo : Int32) (la : Int32) (x1 : Int32) (n : Nat) (H : Heap) (locs : List Loc) (ls : Array Slot) (od : bw_A1) (om : Int32) (hh : Int64) (x2 : Int32), lX6_mixProject_76 z asd ow ca bo la x1 n od om hh x2 = some (z', asd', od', om', ow', ca', bo', la', hh') → bw_I G A s.heap (bw_mW cy a z rows asd sm buf bm th od om ow ca bo la pl to rd hh) H locs → lv_has ls 4 [(0, .ref (a 0)), (1, .int x1), (2, .int x2)] → W p l e (bw_rm 9 210) s m [.ref (a 0), .int p1].toArray below meth c H locs 0 0 Q (F0 m 76 ls []) := by
    intro z asd ow ca bo la x1 n
    induction n with
    | zero => intro H locs ls od om hh x2 h; exact bw_none h
    | succ n ih =>
      intro H locs ls od om hh x2 h hI hl
      have h : bX6_mixProject_76  (lX6_mixProject_76 z asd ow ca bo la x1 n) z asd ow ca bo la x1 od om hh x2 = some (z', asd', od', om', ow', ca', bo', la', hh') := h
      unfold bX6_mixProject_76 at h
      refine lv_iload_n hx hb dX6_mixProject_76 rfl (lv_at hl 2 rfl) ?_
      refine lv_iconst (v := 3) hx hb dX6_mixProject_77 rfl ?_
      refine lv_icmp_ge (tgt := 98) hx hb dX6_mixProject_78 (by decide) (fun c_78 => ?_) (fun c_78 => ?_)
      · rw [if_pos c_78] at h
        refine lv_aload_n hx hb dX6_mixProject_98 rfl (lv_at hl 0 rfl) ?_
        refine lv_aload_n hx hb dX6_mixProject_99 rfl (lv_at hl 0 rfl) ?_
        refine lv_iload_n hx hb dX6_mixProject_100 rfl (lv_at hl 1 rfl) ?_
        obtain ⟨r101, z_101, asd_101, od_101, om_101, ow_101, ca_101, bo_101, la_101, hc, h⟩ := bw_b9_e h
        refine bw_callV S hK hZ hI (mX6_bornBy l G cy g a z rows asd sm buf bm th od om ow ca bo la pl to rd hh x1 r101 z_101 asd_101 od_101 om_101 ow_101 ca_101 bo_101 la_101 hc) Y_X6_bornBy V_X6_bornBy l_X6_208 ⟨(Nat.le_of_ble_eq_true rfl), (Nat.le_of_ble_eq_true rfl)⟩ (q0 := 0) rfl rfl rfl (ws' := (bw_mW cy a z_101 rows asd_101 sm buf bm th od_101 om_101 ow_101 ca_101 bo_101 la_101 pl to rd hh)) (bw_pS _) (bw_pS' _) rfl rfl hl.1 (rest := [.ref (a 0)]) (st1 := [.int r101, .ref (a 0)]) rfl rfl (Nat.le_of_ble_eq_true rfl) dX6_mixProject_101 ⟨(Nat.le_of_ble_eq_true rfl), (Nat.le_of_ble_eq_true rfl)⟩ (fun H locs hI => ?_)
        refine lv_i2l hx hb dX6_mixProject_104 rfl ?_
        obtain ⟨hh_105, hc, h⟩ := bw_b1_e h
        refine bw_callV S hK hZ hI (mX6_mix l G cy g a z_101 rows asd_101 sm buf bm th od_101 om_101 ow_101 ca_101 bo_101 la_101 pl to rd hh (Int32.toInt64 r101) hh_105 hc) Y_X6_mix V_X6_mix l_X6_230 ⟨(Nat.le_of_ble_eq_true rfl), (Nat.le_of_ble_eq_true rfl)⟩ (q0 := 0) rfl rfl rfl (ws' := (bw_mW cy a z_101 rows asd_101 sm buf bm th od_101 om_101 ow_101 ca_101 bo_101 la_101 pl to rd hh_105)) (bw_pS _) (bw_pS' _) rfl rfl hl.1 (rest := []) (st1 := []) rfl rfl (Nat.le_of_ble_eq_true rfl) dX6_mixProject_105 ⟨(Nat.le_of_ble_eq_true rfl), (Nat.le_of_ble_eq_true rfl)⟩ (fun H locs hI => ?_)
        refine lv_iconst (v := 0) hx hb dX6_mixProject_108 rfl ?_
        refine lv_istore_n (lv' := [(2, .int 0), (0, .ref (a 0)), (1, .int x1)]) hx hb dX6_mixProject_109 rfl hl (by decide) rfl (fun ls hl => ?_)
        exact l110 x1 bw_fu _ _ _ z_101 asd_101 od_101 om_101 ow_101 ca_101 bo_101 la_101 hh_105 0 h hI (lv_sub hl [1,2,0] rfl)
      rw [if_neg c_78] at h
      refine lv_aload_n hx hb dX6_mixProject_81 rfl (lv_at hl 0 rfl) ?_
      refine lv_aload_n hx hb dX6_mixProject_82 rfl (lv_at hl 0 rfl) ?_
      refine lv_iload_n hx hb dX6_mixProject_83 rfl (lv_at hl 1 rfl) ?_
      refine lv_iload_n hx hb dX6_mixProject_84 rfl (lv_at hl 2 rfl) ?_
      obtain ⟨r85, od_85, om_85, hc, h⟩ := bw_b3_e h
      refine bw_callV S hK hZ hI (mX6_lenderOf l G cy g a z rows asd sm buf bm th od om ow ca bo la pl to rd hh x1 x2 r85 od_85 om_85 hc) Y_X6_lenderOf V_X6_lenderOf l_X6_186 ⟨(Nat.le_of_ble_eq_true rfl), (Nat.le_of_ble_eq_true rfl)⟩ (q0 := 0) rfl rfl rfl (ws' := (bw_mW cy a z rows asd sm buf bm th od_85 om_85 ow ca bo la pl to rd hh)) (bw_pS _) (bw_pS' _) rfl rfl hl.1 (rest := [.ref (a 0)]) (st1 := [.int r85, .ref (a 0)]) rfl rfl (Nat.le_of_ble_eq_true rfl) dX6_mixProject_85 ⟨(Nat.le_of_ble_eq_true rfl), (Nat.le_of_ble_eq_true rfl)⟩ (fun H locs hI => ?_)
      refine lv_i2l hx hb dX6_mixProject_88 rfl ?_
      obtain ⟨hh_89, hc, h⟩ := bw_b1_e h
      refine bw_callV S hK hZ hI (mX6_mix l G cy g a z rows asd sm buf bm th od_85 om_85 ow ca bo la pl to rd hh (Int32.toInt64 r85) hh_89 hc) Y_X6_mix V_X6_mix l_X6_230 ⟨(Nat.le_of_ble_eq_true rfl), (Nat.le_of_ble_eq_true rfl)⟩ (q0 := 0) rfl rfl rfl (ws' := (bw_mW cy a z rows asd sm buf bm th od_85 om_85 ow ca bo la pl to rd hh_89)) (bw_pS _) (bw_pS' _) rfl rfl hl.1 (rest := []) (st1 := []) rfl rfl (Nat.le_of_ble_eq_true rfl) dX6_mixProject_89 ⟨(Nat.le_of_ble_eq_true rfl), (Nat.le_of_ble_eq_true rfl)⟩ (fun H locs hI => ?_)
      obtain ⟨x2_92, e_92⟩ : ∃ y : Int32, y = x2 + 1 := ⟨_, rfl⟩
      have h := bw_let_e h e_92
      refine lv_iinc (v := x2_92) (lv' := [(2, .int x2_92), (0, .ref (a 0)), (1, .int x1)]) hx hb dX6_mixProject_92 hl (k := 2) rfl (by rw [e_92]; rfl) (by decide) rfl (fun ls hl => ?_)
      clear e_92
      refine lv_goto (tgt := 76) hx hb dX6_mixProject_95 (by decide) ?_
      exact ih _ _ _ od_85 om_85 hh_89 x2_92 h hI (lv_sub hl [1,2,0] rfl)
  have l44 : ∀ (z : bw_A1) (asd : bw_A1) (od : bw_A1) (om : Int32) (ow : Int32) (ca : Int32) (bo : Int32) (la : Int32) (x1 : Int32) (x2 : Int32) (k27 : Int64 → Int32 → Option (bw_A1 × bw_A1 × bw_A1 × Int32 × Int32 × Int32 × Int32 × Int32 × Int64)) (hk27 : ∀ (H : Heap) (locs : List Loc) (ls : Array Slot) (hh_ : Int64) (x2_ : Int32), k27 hh_ x2_ = some (z', asd', od', om', ow', ca', bo', la', hh') → bw_I G A s.heap (bw_mW cy a z rows asd sm buf bm th od om ow ca bo la pl to rd hh_) H locs → lv_has ls 4 [(0, .ref (a 0)), (1, .int x1), (2, .int x2_)] → W p l e (bw_rm 9 210) s m [.ref (a 0), .int p1].toArray below meth c H locs 0 0 Q (F0 m 27 ls [])) (n : Nat) (H : Heap) (locs : List Loc) (ls : Array Slot) (hh : Int64) (x3 : Int32), lX6_mixProject_44 k27 z asd od om ow ca bo la x1 x2 n hh x3 = some (z', asd', od', om', ow', ca', bo', la', hh') → bw_I G A s.heap (bw_mW cy a z rows asd sm buf bm th od om ow ca bo la pl to rd hh) H locs → lv_has ls 4 [(0, .ref (a 0)), (1, .int x1), (2, .int x2), (3, .int x3)] → W p l e (bw_rm 9 210) s m [.ref (a 0), .int p1].toArray below meth c H locs 0 0 Q (F0 m 44 ls []) := by
    intro z asd od om ow ca bo la x1 x2 k27 hk27 n
    induction n with
    | zero => intro H locs ls hh x3 h; exact bw_none h
    | succ n ih =>
      intro H locs ls hh x3 h hI hl
      have h : bX6_mixProject_44 k27 (lX6_mixProject_44 k27 z asd od om ow ca bo la x1 x2 n) z asd od om ow ca bo la x1 x2 hh x3 = some (z', asd', od', om', ow', ca', bo', la', hh') := h
      unfold bX6_mixProject_44 at h
      refine lv_iload_n hx hb dX6_mixProject_44 rfl (lv_at hl 3 rfl) ?_
      refine lv_bipush (v := 6) hx hb dX6_mixProject_45 (by decide) ?_
      refine lv_icmp_ge (tgt := 68) hx hb dX6_mixProject_47 (by decide) (fun c_47 => ?_) (fun c_47 => ?_)
      · rw [if_pos c_47] at h
        obtain ⟨x2_68, e_68⟩ : ∃ y : Int32, y = x2 + 1 := ⟨_, rfl⟩
        have h := bw_let_e h e_68
        refine lv_iinc (v := x2_68) (lv' := [(2, .int x2_68), (0, .ref (a 0)), (1, .int x1), (3, .int x3)]) hx hb dX6_mixProject_68 hl (k := 2) rfl (by rw [e_68]; rfl) (by decide) rfl (fun ls hl => ?_)
        clear e_68
        refine lv_goto (tgt := 27) hx hb dX6_mixProject_71 (by decide) ?_
        exact hk27 _ _ _ hh x2_68 h hI (lv_sub hl [1,2,0] rfl)
      rw [if_neg c_47] at h
      refine lv_aload_n hx hb dX6_mixProject_50 rfl (lv_at hl 0 rfl) ?_
      refine lv_aload_n hx hb dX6_mixProject_51 rfl (lv_at hl 0 rfl) ?_
      refine lv_iload_n hx hb dX6_mixProject_52 rfl (lv_at hl 1 rfl) ?_
      refine lv_iload_n hx hb dX6_mixProject_53 rfl (lv_at hl 2 rfl) ?_
      refine lv_iload_n hx hb dX6_mixProject_54 rfl (lv_at hl 3 rfl) ?_
      obtain ⟨r55, hc, h⟩ := bw_b1_e h
      refine bw_callV S hK hZ hI (mX6_taskOf l G cy g a z rows asd sm buf bm th od om ow ca bo la pl to rd hh x1 x2 x3 r55 hc) Y_X6_taskOf V_X6_taskOf l_X6_182 ⟨(Nat.le_of_ble_eq_true rfl), (Nat.le_of_ble_eq_true rfl)⟩ (q0 := 0) rfl rfl rfl (ws' := (bw_mW cy a z rows asd sm buf bm th od om ow ca bo la pl to rd hh)) (bw_pS _) (bw_pS' _) rfl rfl hl.1 (rest := [.ref (a 0)]) (st1 := [.int r55, .ref (a 0)]) rfl rfl (Nat.le_of_ble_eq_true rfl) dX6_mixProject_55 ⟨(Nat.le_of_ble_eq_true rfl), (Nat.le_of_ble_eq_true rfl)⟩ (fun H locs hI => ?_)
      refine lv_i2l hx hb dX6_mixProject_58 rfl ?_
      obtain ⟨hh_59, hc, h⟩ := bw_b1_e h
      refine bw_callV S hK hZ hI (mX6_mix l G cy g a z rows asd sm buf bm th od om ow ca bo la pl to rd hh (Int32.toInt64 r55) hh_59 hc) Y_X6_mix V_X6_mix l_X6_230 ⟨(Nat.le_of_ble_eq_true rfl), (Nat.le_of_ble_eq_true rfl)⟩ (q0 := 0) rfl rfl rfl (ws' := (bw_mW cy a z rows asd sm buf bm th od om ow ca bo la pl to rd hh_59)) (bw_pS _) (bw_pS' _) rfl rfl hl.1 (rest := []) (st1 := []) rfl rfl (Nat.le_of_ble_eq_true rfl) dX6_mixProject_59 ⟨(Nat.le_of_ble_eq_true rfl), (Nat.le_of_ble_eq_true rfl)⟩ (fun H locs hI => ?_)
      obtain ⟨x3_62, e_62⟩ : ∃ y : Int32, y = x3 + 1 := ⟨_, rfl⟩
      have h := bw_let_e h e_62
      refine lv_iinc (v := x3_62) (lv' := [(3, .int x3_62), (0, .ref (a 0)), (1, .int x1), (2, .int x2)]) hx hb dX6_mixProject_62 hl (k := 3) rfl (by rw [e_62]; rfl) (by decide) rfl (fun ls hl => ?_)
      clear e_62
      refine lv_goto (tgt := 44) hx hb dX6_mixProject_65 (by decide) ?_
      exact ih _ _ _ hh_59 x3_62 h hI (lv_sub hl [1,2,3,0] rfl)
  have l27 : ∀ (z : bw_A1) (asd : bw_A1) (od : bw_A1) (om : Int32) (ow : Int32) (ca : Int32) (bo : Int32) (la : Int32) (x1 : Int32) (n : Nat) (H : Heap) (locs : List Loc) (ls : Array Slot) (hh : Int64) (x2 : Int32), lX6_mixProject_27 z asd od om ow ca bo la x1 n hh x2 = some (z', asd', od', om', ow', ca', bo', la', hh') → bw_I G A s.heap (bw_mW cy a z rows asd sm buf bm th od om ow ca bo la pl to rd hh) H locs → lv_has ls 4 [(0, .ref (a 0)), (1, .int x1), (2, .int x2)] → W p l e (bw_rm 9 210) s m [.ref (a 0), .int p1].toArray below meth c H locs 0 0 Q (F0 m 27 ls []) := by
    intro z asd od om ow ca bo la x1 n
    induction n with
    | zero => intro H locs ls hh x2 h; exact bw_none h
    | succ n ih =>
      intro H locs ls hh x2 h hI hl
      have h : bX6_mixProject_27  (lX6_mixProject_27 z asd od om ow ca bo la x1 n) z asd od om ow ca bo la x1 hh x2 = some (z', asd', od', om', ow', ca', bo', la', hh') := h
      unfold bX6_mixProject_27 at h
      refine lv_iload_n hx hb dX6_mixProject_27 rfl (lv_at hl 2 rfl) ?_
      refine lv_aload_n hx hb dX6_mixProject_28 rfl (lv_at hl 0 rfl) ?_
      refine bw_get S hK hI 0 0 rfl rfl (by decide) i_X6 f_X6_7 rfl dX6_mixProject_29 ?_
      refine lv_iload_n hx hb dX6_mixProject_32 rfl (lv_at hl 1 rfl) ?_
      obtain ⟨r33, hc, h⟩ := bw_b1_e h
      refine bw_callP S hK hZ hI (mX6_at l G cy g x1 r33 hc) Y_X6_at V_X6_at l_X6_39 ⟨(Nat.le_of_ble_eq_true rfl), (Nat.le_of_ble_eq_true rfl)⟩ (rest := [.ref (a 1), .int x2]) (st1 := [.int r33, .ref (a 1), .int x2]) rfl hl.1 rfl rfl (Nat.le_of_ble_eq_true rfl) dX6_mixProject_33 ⟨(Nat.le_of_ble_eq_true rfl), (Nat.le_of_ble_eq_true rfl)⟩ (fun H locs hI => ?_)
      refine lv_iconst (v := 5) hx hb dX6_mixProject_36 rfl ?_
      refine lv_iadd hx hb dX6_mixProject_37 ?_
      obtain ⟨v38, hv, h⟩ := bw_b1_e h
      refine bw_iald hx hb hK hI 1 hv rfl dX6_mixProject_38 ?_
      refine lv_icmp_ge (tgt := 74) hx hb dX6_mixProject_39 (by decide) (fun c_39 => ?_) (fun c_39 => ?_)
      · rw [if_pos c_39] at h
        refine lv_iconst (v := 0) hx hb dX6_mixProject_74 rfl ?_
        refine lv_istore_n (lv' := [(2, .int 0), (0, .ref (a 0)), (1, .int x1)]) hx hb dX6_mixProject_75 rfl hl (by decide) rfl (fun ls hl => ?_)
        exact l76 z asd ow ca bo la x1 bw_fu _ _ _ od om hh 0 h hI (lv_sub hl [1,2,0] rfl)
      rw [if_neg c_39] at h
      refine lv_iconst (v := 0) hx hb dX6_mixProject_42 rfl ?_
      refine lv_istore_n (lv' := [(3, .int 0), (0, .ref (a 0)), (1, .int x1), (2, .int x2)]) hx hb dX6_mixProject_43 rfl hl (by decide) rfl (fun ls hl => ?_)
      exact l44 z asd od om ow ca bo la x1 x2 (lX6_mixProject_27 z asd od om ow ca bo la x1 n) ih bw_fu _ _ _ hh 0 h hI (lv_sub hl [1,2,3,0] rfl)
  have l2 : ∀ (z : bw_A1) (asd : bw_A1) (od : bw_A1) (om : Int32) (ow : Int32) (ca : Int32) (bo : Int32) (la : Int32) (x1 : Int32) (n : Nat) (H : Heap) (locs : List Loc) (ls : Array Slot) (hh : Int64) (x2 : Int32), lX6_mixProject_2 z asd od om ow ca bo la x1 n hh x2 = some (z', asd', od', om', ow', ca', bo', la', hh') → bw_I G A s.heap (bw_mW cy a z rows asd sm buf bm th od om ow ca bo la pl to rd hh) H locs → lv_has ls 4 [(0, .ref (a 0)), (1, .int x1), (2, .int x2)] → W p l e (bw_rm 9 210) s m [.ref (a 0), .int p1].toArray below meth c H locs 0 0 Q (F0 m 2 ls []) := by
    intro z asd od om ow ca bo la x1 n
    induction n with
    | zero => intro H locs ls hh x2 h; exact bw_none h
    | succ n ih =>
      intro H locs ls hh x2 h hI hl
      have h : bX6_mixProject_2  (lX6_mixProject_2 z asd od om ow ca bo la x1 n) z asd od om ow ca bo la x1 hh x2 = some (z', asd', od', om', ow', ca', bo', la', hh') := h
      unfold bX6_mixProject_2 at h
      refine lv_iload_n hx hb dX6_mixProject_2 rfl (lv_at hl 2 rfl) ?_
      refine lv_bipush (v := 15) hx hb dX6_mixProject_3 (by decide) ?_
      refine lv_icmp_ge (tgt := 25) hx hb dX6_mixProject_5 (by decide) (fun c_5 => ?_) (fun c_5 => ?_)
      · rw [if_pos c_5] at h
        refine lv_iconst (v := 0) hx hb dX6_mixProject_25 rfl ?_
        refine lv_istore_n (lv' := [(2, .int 0), (0, .ref (a 0)), (1, .int x1)]) hx hb dX6_mixProject_26 rfl hl (by decide) rfl (fun ls hl => ?_)
        exact l27 z asd od om ow ca bo la x1 bw_fu _ _ _ hh 0 h hI (lv_sub hl [1,2,0] rfl)
      rw [if_neg c_5] at h
      refine lv_aload_n hx hb dX6_mixProject_8 rfl (lv_at hl 0 rfl) ?_
      refine lv_aload_n hx hb dX6_mixProject_9 rfl (lv_at hl 0 rfl) ?_
      refine lv_iload_n hx hb dX6_mixProject_10 rfl (lv_at hl 1 rfl) ?_
      refine lv_iload_n hx hb dX6_mixProject_11 rfl (lv_at hl 2 rfl) ?_
      obtain ⟨r12, hc, h⟩ := bw_b1_e h
      refine bw_callV S hK hZ hI (mX6_projectOf l G cy g a z rows asd sm buf bm th od om ow ca bo la pl to rd hh x1 x2 r12 hc) Y_X6_projectOf V_X6_projectOf l_X6_179 ⟨(Nat.le_of_ble_eq_true rfl), (Nat.le_of_ble_eq_true rfl)⟩ (q0 := 0) rfl rfl rfl (ws' := (bw_mW cy a z rows asd sm buf bm th od om ow ca bo la pl to rd hh)) (bw_pS _) (bw_pS' _) rfl rfl hl.1 (rest := [.ref (a 0)]) (st1 := [.int r12, .ref (a 0)]) rfl rfl (Nat.le_of_ble_eq_true rfl) dX6_mixProject_12 ⟨(Nat.le_of_ble_eq_true rfl), (Nat.le_of_ble_eq_true rfl)⟩ (fun H locs hI => ?_)
      refine lv_i2l hx hb dX6_mixProject_15 rfl ?_
      obtain ⟨hh_16, hc, h⟩ := bw_b1_e h
      refine bw_callV S hK hZ hI (mX6_mix l G cy g a z rows asd sm buf bm th od om ow ca bo la pl to rd hh (Int32.toInt64 r12) hh_16 hc) Y_X6_mix V_X6_mix l_X6_230 ⟨(Nat.le_of_ble_eq_true rfl), (Nat.le_of_ble_eq_true rfl)⟩ (q0 := 0) rfl rfl rfl (ws' := (bw_mW cy a z rows asd sm buf bm th od om ow ca bo la pl to rd hh_16)) (bw_pS _) (bw_pS' _) rfl rfl hl.1 (rest := []) (st1 := []) rfl rfl (Nat.le_of_ble_eq_true rfl) dX6_mixProject_16 ⟨(Nat.le_of_ble_eq_true rfl), (Nat.le_of_ble_eq_true rfl)⟩ (fun H locs hI => ?_)
      obtain ⟨x2_19, e_19⟩ : ∃ y : Int32, y = x2 + 1 := ⟨_, rfl⟩
      have h := bw_let_e h e_19
      refine lv_iinc (v := x2_19) (lv' := [(2, .int x2_19), (0, .ref (a 0)), (1, .int x1)]) hx hb dX6_mixProject_19 hl (k := 2) rfl (by rw [e_19]; rfl) (by decide) rfl (fun ls hl => ?_)
      clear e_19
      refine lv_goto (tgt := 2) hx hb dX6_mixProject_22 (by decide) ?_
      exact ih _ _ _ hh_16 x2_19 h hI (lv_sub hl [1,2,0] rfl)
  unfold fX6_mixProject at h
  refine lv_iconst (v := 0) hx hb dX6_mixProject_0 rfl ?_
  refine lv_istore_n (lv' := [(2, .int 0), (0, .ref (a 0)), (1, .int p1)]) hx hb dX6_mixProject_1 rfl hl (by decide) rfl (fun ls hl => ?_)
  exact l2 z asd od om ow ca bo la p1 bw_fu _ _ _ hh 0 h hI (lv_sub hl [1,2,0] rfl)
