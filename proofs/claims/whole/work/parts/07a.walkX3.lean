set_option maxHeartbeats 4000000 in
set_option maxRecDepth 100000 in
theorem mX3_put (l : Launch) (G : va_G) (cy : Nat → ClassId) (g : Nat) (b0 : Nat) (b1 : Nat) (cn : Nat) (cc : Int32) (f : bw_A1) (p1 : Int32) (p2 : Int32) (p3 : Int32) (f' : bw_A1) (h : fX3_put cn cc f p1 p2 p3 = some f') : bw_M l yX3_put cX3_put 5 none 0 0 G cy g [.ref b0, .int p1, .int p2, .int p3] (bw_tW cy b0 b1 cn cc f) none (bw_tW cy b0 b1 cn cc f') := by
  refine bw_ofW (by decide +kernel) RX3 rfl (Nat.le_of_ble_eq_true rfl) ?_
  intro p e s m below meth c ls S hr hlocks hK hZ hI hl
  have hx := S.1
  have hb := S.2.1
  have hown := S.2.2.2.1
  have hts := S.2.2.2.2
  generalize va_A _ s.heap.size = A at hI hZ ⊢
  generalize hQ : MQ below _ _ s 0 0 A = Q
  have hl : lv_has ls 5 [(0, .ref b0), (1, .int p1), (2, .int p2), (3, .int p3)] := hl
  unfold fX3_put at h
  refine lv_iload_n hx hb dX3_put_0 rfl (lv_at hl 1 rfl) ?_
  refine lv_aload_n hx hb dX3_put_1 rfl (lv_at hl 0 rfl) ?_
  refine bw_get S hK hI 0 0 rfl rfl (by decide) i_X3 f_X3_7 rfl dX3_put_2 ?_
  refine lv_imul hx hb dX3_put_5 ?_
  refine lv_iload_n hx hb dX3_put_6 rfl (lv_at hl 2 rfl) ?_
  refine lv_iadd hx hb dX3_put_7 ?_
  refine lv_topi (fun x4_8 e_8 => ?_)
  have h := bw_let_e h e_8
  clear e_8
  refine lv_istore (lv' := [(4, .int x4_8), (0, .ref b0), (1, .int p1), (2, .int p2), (3, .int p3)]) hx hb dX3_put_8 hl (by decide) rfl (fun ls hl => ?_)
  refine lv_iload hx hb dX3_put_10 (lv_at hl 0 rfl) ?_
  refine lv_if_lt (tgt := 33) hx hb dX3_put_12 (by decide) (fun c_12 => ?_) (fun c_12 => ?_)
  · rw [if_pos c_12] at h
    exact bw_vret (d := f) (rr := f') S hr hlocks h (fun q : bw_A1 => (bw_tW cy b0 b1 cn cc q)) hI dX3_put_33 hQ
  rw [if_neg c_12] at h
  refine lv_iload hx hb dX3_put_15 (lv_at hl 0 rfl) ?_
  refine lv_aload_n hx hb dX3_put_17 rfl (lv_at hl 1 rfl) ?_
  refine bw_get S hK hI 0 1 rfl rfl (by decide) i_X3 f_X3_19 rfl dX3_put_18 ?_
  refine bw_alen hx hb hK hI 1 (v := (Int32.ofNat cn)) rfl rfl dX3_put_21 ?_
  refine lv_icmp_ge (tgt := 33) hx hb dX3_put_22 (by decide) (fun c_22 => ?_) (fun c_22 => ?_)
  · rw [if_pos c_22] at h
    exact bw_vret (d := f) (rr := f') S hr hlocks h (fun q : bw_A1 => (bw_tW cy b0 b1 cn cc q)) hI dX3_put_33 hQ
  rw [if_neg c_22] at h
  refine lv_aload_n hx hb dX3_put_25 rfl (lv_at hl 1 rfl) ?_
  refine bw_get S hK hI 0 1 rfl rfl (by decide) i_X3 f_X3_19 rfl dX3_put_26 ?_
  refine lv_iload hx hb dX3_put_29 (lv_at hl 0 rfl) ?_
  refine lv_iload_n hx hb dX3_put_31 rfl (lv_at hl 4 rfl) ?_
  obtain ⟨f_32, hv, h⟩ := bw_b1_e h
  refine bw_iast hx hb hK hI 1 (ws' := (bw_tW cy b0 b1 cn cc f_32)) hv rfl rfl dX3_put_32 (fun H locs hI => ?_)
  exact bw_vret (d := f_32) (rr := f') S hr hlocks h (fun q : bw_A1 => (bw_tW cy b0 b1 cn cc q)) hI dX3_put_33 hQ
set_option maxHeartbeats 4000000 in
set_option maxRecDepth 100000 in
theorem mX3_get (l : Launch) (G : va_G) (cy : Nat → ClassId) (g : Nat) (b0 : Nat) (b1 : Nat) (cn : Nat) (cc : Int32) (f : bw_A1) (p1 : Int32) (p2 : Int32) (r : Int32) (h : fX3_get cn cc f p1 p2 = some r) : bw_M l yX3_get cX3_get 4 (some .int) 0 0 G cy g [.ref b0, .int p1, .int p2] (bw_tW cy b0 b1 cn cc f) (some (.int r)) (bw_tW cy b0 b1 cn cc f) := by
  refine bw_ofW (by decide +kernel) RX3 rfl (Nat.le_of_ble_eq_true rfl) ?_
  intro p e s m below meth c ls S hr hlocks hK hZ hI hl
  have hx := S.1
  have hb := S.2.1
  have hown := S.2.2.2.1
  have hts := S.2.2.2.2
  generalize va_A _ s.heap.size = A at hI hZ ⊢
  generalize hQ : MQ below _ _ s 0 0 A = Q
  have hl : lv_has ls 4 [(0, .ref b0), (1, .int p1), (2, .int p2)] := hl
  have j31 : ∀  (H : Heap) (locs : List Loc) (ls : Array Slot), jX3_get_31 cn cc f = some r → bw_I G A s.heap (bw_tW cy b0 b1 cn cc f) H locs → lv_has ls 4 [] → W p l e (bw_rm 0 0) s m [.ref b0, .int p1, .int p2].toArray below meth c H locs 0 0 Q (F0 m 31 ls []) := by
    intro  H locs ls h hI hl
    unfold jX3_get_31 at h
    refine lv_iconst (v := 0) hx hb dX3_get_31 rfl ?_
    exact bw_iretP S hr hlocks h hI rfl dX3_get_32 hQ
  unfold fX3_get at h
  refine lv_iload_n hx hb dX3_get_0 rfl (lv_at hl 1 rfl) ?_
  refine lv_aload_n hx hb dX3_get_1 rfl (lv_at hl 0 rfl) ?_
  refine bw_get S hK hI 0 0 rfl rfl (by decide) i_X3 f_X3_7 rfl dX3_get_2 ?_
  refine lv_imul hx hb dX3_get_5 ?_
  refine lv_iload_n hx hb dX3_get_6 rfl (lv_at hl 2 rfl) ?_
  refine lv_iadd hx hb dX3_get_7 ?_
  refine lv_topi (fun x3_8 e_8 => ?_)
  have h := bw_let_e h e_8
  clear e_8
  refine lv_istore_n (lv' := [(3, .int x3_8), (0, .ref b0), (1, .int p1), (2, .int p2)]) hx hb dX3_get_8 rfl hl (by decide) rfl (fun ls hl => ?_)
  refine lv_iload_n hx hb dX3_get_9 rfl (lv_at hl 0 rfl) ?_
  refine lv_if_lt (tgt := 31) hx hb dX3_get_10 (by decide) (fun c_10 => ?_) (fun c_10 => ?_)
  · rw [if_pos c_10] at h
    exact j31  _ _ _ h hI (lv_sub hl [] rfl)
  rw [if_neg c_10] at h
  refine lv_iload_n hx hb dX3_get_13 rfl (lv_at hl 0 rfl) ?_
  refine lv_aload_n hx hb dX3_get_14 rfl (lv_at hl 1 rfl) ?_
  refine bw_get S hK hI 0 1 rfl rfl (by decide) i_X3 f_X3_19 rfl dX3_get_15 ?_
  refine bw_alen hx hb hK hI 1 (v := (Int32.ofNat cn)) rfl rfl dX3_get_18 ?_
  refine lv_icmp_ge (tgt := 31) hx hb dX3_get_19 (by decide) (fun c_19 => ?_) (fun c_19 => ?_)
  · rw [if_pos c_19] at h
    exact j31  _ _ _ h hI (lv_sub hl [] rfl)
  rw [if_neg c_19] at h
  refine lv_aload_n hx hb dX3_get_22 rfl (lv_at hl 1 rfl) ?_
  refine bw_get S hK hI 0 1 rfl rfl (by decide) i_X3 f_X3_19 rfl dX3_get_23 ?_
  refine lv_iload_n hx hb dX3_get_26 rfl (lv_at hl 0 rfl) ?_
  obtain ⟨v27, hv, h⟩ := bw_b1_e h
  refine bw_iald hx hb hK hI 1 hv rfl dX3_get_27 ?_
  refine lv_goto (tgt := 32) hx hb dX3_get_28 (by decide) ?_
  exact bw_iretP S hr hlocks h hI rfl dX3_get_32 hQ
set_option maxHeartbeats 4000000 in
set_option maxRecDepth 100000 in
theorem mX3_increase (l : Launch) (G : va_G) (cy : Nat → ClassId) (g : Nat) (b0 : Nat) (b1 : Nat) (cn : Nat) (cc : Int32) (f : bw_A1) (p1 : Int32) (p2 : Int32) (p3 : Int32) (f' : bw_A1) (h : fX3_increase cn cc f p1 p2 p3 = some f') : bw_M l yX3_increase cX3_increase 5 none 0 0 G cy g [.ref b0, .int p1, .int p2, .int p3] (bw_tW cy b0 b1 cn cc f) none (bw_tW cy b0 b1 cn cc f') := by
  refine bw_ofW (by decide +kernel) RX3 rfl (Nat.le_of_ble_eq_true rfl) ?_
  intro p e s m below meth c ls S hr hlocks hK hZ hI hl
  have hx := S.1
  have hb := S.2.1
  have hown := S.2.2.2.1
  have hts := S.2.2.2.2
  generalize va_A _ s.heap.size = A at hI hZ ⊢
  generalize hQ : MQ below _ _ s 0 0 A = Q
  have hl : lv_has ls 5 [(0, .ref b0), (1, .int p1), (2, .int p2), (3, .int p3)] := hl
  unfold fX3_increase at h
  refine lv_iload_n hx hb dX3_increase_0 rfl (lv_at hl 1 rfl) ?_
  refine lv_aload_n hx hb dX3_increase_1 rfl (lv_at hl 0 rfl) ?_
  refine bw_get S hK hI 0 0 rfl rfl (by decide) i_X3 f_X3_7 rfl dX3_increase_2 ?_
  refine lv_imul hx hb dX3_increase_5 ?_
  refine lv_iload_n hx hb dX3_increase_6 rfl (lv_at hl 2 rfl) ?_
  refine lv_iadd hx hb dX3_increase_7 ?_
  refine lv_topi (fun x4_8 e_8 => ?_)
  have h := bw_let_e h e_8
  clear e_8
  refine lv_istore (lv' := [(4, .int x4_8), (0, .ref b0), (1, .int p1), (2, .int p2), (3, .int p3)]) hx hb dX3_increase_8 hl (by decide) rfl (fun ls hl => ?_)
  refine lv_iload hx hb dX3_increase_10 (lv_at hl 0 rfl) ?_
  refine lv_if_lt (tgt := 36) hx hb dX3_increase_12 (by decide) (fun c_12 => ?_) (fun c_12 => ?_)
  · rw [if_pos c_12] at h
    exact bw_vret (d := f) (rr := f') S hr hlocks h (fun q : bw_A1 => (bw_tW cy b0 b1 cn cc q)) hI dX3_increase_36 hQ
  rw [if_neg c_12] at h
  refine lv_iload hx hb dX3_increase_15 (lv_at hl 0 rfl) ?_
  refine lv_aload_n hx hb dX3_increase_17 rfl (lv_at hl 1 rfl) ?_
  refine bw_get S hK hI 0 1 rfl rfl (by decide) i_X3 f_X3_19 rfl dX3_increase_18 ?_
  refine bw_alen hx hb hK hI 1 (v := (Int32.ofNat cn)) rfl rfl dX3_increase_21 ?_
  refine lv_icmp_ge (tgt := 36) hx hb dX3_increase_22 (by decide) (fun c_22 => ?_) (fun c_22 => ?_)
  · rw [if_pos c_22] at h
    exact bw_vret (d := f) (rr := f') S hr hlocks h (fun q : bw_A1 => (bw_tW cy b0 b1 cn cc q)) hI dX3_increase_36 hQ
  rw [if_neg c_22] at h
  refine lv_aload_n hx hb dX3_increase_25 rfl (lv_at hl 1 rfl) ?_
  refine bw_get S hK hI 0 1 rfl rfl (by decide) i_X3 f_X3_19 rfl dX3_increase_26 ?_
  refine lv_iload hx hb dX3_increase_29 (lv_at hl 0 rfl) ?_
  refine lv_dup2_11 hx hb dX3_increase_31 rfl rfl ?_
  obtain ⟨v32, hv, h⟩ := bw_b1_e h
  refine bw_iald hx hb hK hI 1 hv rfl dX3_increase_32 ?_
  refine lv_iload_n hx hb dX3_increase_33 rfl (lv_at hl 4 rfl) ?_
  refine lv_iadd hx hb dX3_increase_34 ?_
  obtain ⟨f_35, hv, h⟩ := bw_b1_e h
  refine bw_iast hx hb hK hI 1 (ws' := (bw_tW cy b0 b1 cn cc f_35)) hv rfl rfl dX3_increase_35 (fun H locs hI => ?_)
  exact bw_vret (d := f_35) (rr := f') S hr hlocks h (fun q : bw_A1 => (bw_tW cy b0 b1 cn cc q)) hI dX3_increase_36 hQ
set_option maxHeartbeats 4000000 in
set_option maxRecDepth 100000 in
theorem mX3_removeRow (l : Launch) (G : va_G) (cy : Nat → ClassId) (g : Nat) (b0 : Nat) (b1 : Nat) (cn : Nat) (cc : Int32) (f : bw_A1) (p1 : Int32) (f' : bw_A1) (h : fX3_removeRow cn cc f p1 = some f') : bw_M l yX3_removeRow cX3_removeRow 3 none 0 0 G cy g [.ref b0, .int p1] (bw_tW cy b0 b1 cn cc f) none (bw_tW cy b0 b1 cn cc f') := by
  refine bw_ofW (by decide +kernel) RX3 rfl (Nat.le_of_ble_eq_true rfl) ?_
  intro p e s m below meth c ls S hr hlocks hK hZ hI hl
  have hx := S.1
  have hb := S.2.1
  have hown := S.2.2.2.1
  have hts := S.2.2.2.2
  generalize va_A _ s.heap.size = A at hI hZ ⊢
  generalize hQ : MQ below _ _ s 0 0 A = Q
  have hl : lv_has ls 3 [(0, .ref b0), (1, .int p1)] := hl
  have l7 : ∀  (n : Nat) (H : Heap) (locs : List Loc) (ls : Array Slot) (f : bw_A1) (x2 : Int32), lX3_removeRow_7 cn cc n f x2 = some f' → bw_I G A s.heap (bw_tW cy b0 b1 cn cc f) H locs → lv_has ls 3 [(0, .ref b0), (2, .int x2)] → W p l e (bw_rm 0 0) s m [.ref b0, .int p1].toArray below meth c H locs 0 0 Q (F0 m 7 ls []) := by
    intro  n
    induction n with
    | zero => intro H locs ls f x2 h; exact bw_none h
    | succ n ih =>
      intro H locs ls f x2 h hI hl
      have h : bX3_removeRow_7 cn cc (lX3_removeRow_7 cn cc n)  f x2 = some f' := h
      unfold bX3_removeRow_7 at h
      refine lv_iload_n hx hb dX3_removeRow_7 rfl (lv_at hl 1 rfl) ?_
      refine lv_if_lt (tgt := 48) hx hb dX3_removeRow_8 (by decide) (fun c_8 => ?_) (fun c_8 => ?_)
      · rw [if_pos c_8] at h
        exact bw_vret (d := f) (rr := f') S hr hlocks h (fun q : bw_A1 => (bw_tW cy b0 b1 cn cc q)) hI dX3_removeRow_48 hQ
      rw [if_neg c_8] at h
      refine lv_iload_n hx hb dX3_removeRow_11 rfl (lv_at hl 1 rfl) ?_
      refine lv_aload_n hx hb dX3_removeRow_12 rfl (lv_at hl 0 rfl) ?_
      refine bw_get S hK hI 0 1 rfl rfl (by decide) i_X3 f_X3_19 rfl dX3_removeRow_13 ?_
      refine bw_alen hx hb hK hI 1 (v := (Int32.ofNat cn)) rfl rfl dX3_removeRow_16 ?_
      refine lv_aload_n hx hb dX3_removeRow_17 rfl (lv_at hl 0 rfl) ?_
      refine bw_get S hK hI 0 0 rfl rfl (by decide) i_X3 f_X3_7 rfl dX3_removeRow_18 ?_
      refine lv_isub hx hb dX3_removeRow_21 ?_
      refine lv_icmp_ge (tgt := 48) hx hb dX3_removeRow_22 (by decide) (fun c_22 => ?_) (fun c_22 => ?_)
      · rw [if_pos c_22] at h
        exact bw_vret (d := f) (rr := f') S hr hlocks h (fun q : bw_A1 => (bw_tW cy b0 b1 cn cc q)) hI dX3_removeRow_48 hQ
      rw [if_neg c_22] at h
      refine lv_aload_n hx hb dX3_removeRow_25 rfl (lv_at hl 0 rfl) ?_
      refine bw_get S hK hI 0 1 rfl rfl (by decide) i_X3 f_X3_19 rfl dX3_removeRow_26 ?_
      refine lv_iload_n hx hb dX3_removeRow_29 rfl (lv_at hl 1 rfl) ?_
      refine lv_aload_n hx hb dX3_removeRow_30 rfl (lv_at hl 0 rfl) ?_
      refine bw_get S hK hI 0 1 rfl rfl (by decide) i_X3 f_X3_19 rfl dX3_removeRow_31 ?_
      refine lv_iload_n hx hb dX3_removeRow_34 rfl (lv_at hl 1 rfl) ?_
      refine lv_aload_n hx hb dX3_removeRow_35 rfl (lv_at hl 0 rfl) ?_
      refine bw_get S hK hI 0 0 rfl rfl (by decide) i_X3 f_X3_7 rfl dX3_removeRow_36 ?_
      refine lv_iadd hx hb dX3_removeRow_39 ?_
      obtain ⟨v40, hv, h⟩ := bw_b1_e h
      refine bw_iald hx hb hK hI 1 hv rfl dX3_removeRow_40 ?_
      obtain ⟨f_41, hv, h⟩ := bw_b1_e h
      refine bw_iast hx hb hK hI 1 (ws' := (bw_tW cy b0 b1 cn cc f_41)) hv rfl rfl dX3_removeRow_41 (fun H locs hI => ?_)
      obtain ⟨x2_42, e_42⟩ : ∃ y : Int32, y = x2 + 1 := ⟨_, rfl⟩
      have h := bw_let_e h e_42
      refine lv_iinc (v := x2_42) (lv' := [(2, .int x2_42), (0, .ref b0)]) hx hb dX3_removeRow_42 hl (k := 1) rfl (by rw [e_42]; rfl) (by decide) rfl (fun ls hl => ?_)
      clear e_42
      refine lv_goto (tgt := 7) hx hb dX3_removeRow_45 (by decide) ?_
      exact ih _ _ _ f_41 x2_42 h hI (lv_sub hl [1,0] rfl)
  unfold fX3_removeRow at h
  refine lv_iload_n hx hb dX3_removeRow_0 rfl (lv_at hl 1 rfl) ?_
  refine lv_aload_n hx hb dX3_removeRow_1 rfl (lv_at hl 0 rfl) ?_
  refine bw_get S hK hI 0 0 rfl rfl (by decide) i_X3 f_X3_7 rfl dX3_removeRow_2 ?_
  refine lv_imul hx hb dX3_removeRow_5 ?_
  refine lv_topi (fun x2_6 e_6 => ?_)
  have h := bw_let_e h e_6
  clear e_6
  refine lv_istore_n (lv' := [(2, .int x2_6), (0, .ref b0), (1, .int p1)]) hx hb dX3_removeRow_6 rfl hl (by decide) rfl (fun ls hl => ?_)
  exact l7  bw_fu _ _ _ f x2_6 h hI (lv_sub hl [1,0] rfl)
set_option maxHeartbeats 4000000 in
set_option maxRecDepth 100000 in
theorem mX3_insertRow (l : Launch) (G : va_G) (cy : Nat → ClassId) (g : Nat) (b0 : Nat) (b1 : Nat) (cn : Nat) (cc : Int32) (f : bw_A1) (p1 : Int32) (f' : bw_A1) (h : fX3_insertRow cn cc f p1 = some f') : bw_M l yX3_insertRow cX3_insertRow 4 none 0 0 G cy g [.ref b0, .int p1] (bw_tW cy b0 b1 cn cc f) none (bw_tW cy b0 b1 cn cc f') := by
  refine bw_ofW (by decide +kernel) RX3 rfl (Nat.le_of_ble_eq_true rfl) ?_
  intro p e s m below meth c ls S hr hlocks hK hZ hI hl
  have hx := S.1
  have hb := S.2.1
  have hown := S.2.2.2.1
  have hts := S.2.2.2.2
  generalize va_A _ s.heap.size = A at hI hZ ⊢
  generalize hQ : MQ below _ _ s 0 0 A = Q
  have hl : lv_has ls 4 [(0, .ref b0), (1, .int p1)] := hl
  have l17 : ∀ (x2 : Int32) (n : Nat) (H : Heap) (locs : List Loc) (ls : Array Slot) (f : bw_A1) (x3 : Int32), lX3_insertRow_17 cn cc x2 n f x3 = some f' → bw_I G A s.heap (bw_tW cy b0 b1 cn cc f) H locs → lv_has ls 4 [(0, .ref b0), (2, .int x2), (3, .int x3)] → W p l e (bw_rm 0 0) s m [.ref b0, .int p1].toArray below meth c H locs 0 0 Q (F0 m 17 ls []) := by
    intro x2 n
    induction n with
    | zero => intro H locs ls f x3 h; exact bw_none h
    | succ n ih =>
      intro H locs ls f x3 h hI hl
      have h : bX3_insertRow_17 cn cc (lX3_insertRow_17 cn cc x2 n) x2 f x3 = some f' := h
      unfold bX3_insertRow_17 at h
      refine lv_iload_n hx hb dX3_insertRow_17 rfl (lv_at hl 2 rfl) ?_
      refine lv_iload_n hx hb dX3_insertRow_18 rfl (lv_at hl 1 rfl) ?_
      refine lv_icmp_lt (tgt := 53) hx hb dX3_insertRow_19 (by decide) (fun c_19 => ?_) (fun c_19 => ?_)
      · rw [if_pos c_19] at h
        exact bw_vret (d := f) (rr := f') S hr hlocks h (fun q : bw_A1 => (bw_tW cy b0 b1 cn cc q)) hI dX3_insertRow_53 hQ
      rw [if_neg c_19] at h
      refine lv_iload_n hx hb dX3_insertRow_22 rfl (lv_at hl 2 rfl) ?_
      refine lv_aload_n hx hb dX3_insertRow_23 rfl (lv_at hl 0 rfl) ?_
      refine bw_get S hK hI 0 0 rfl rfl (by decide) i_X3 f_X3_7 rfl dX3_insertRow_24 ?_
      refine lv_icmp_lt (tgt := 53) hx hb dX3_insertRow_27 (by decide) (fun c_27 => ?_) (fun c_27 => ?_)
      · rw [if_pos c_27] at h
        exact bw_vret (d := f) (rr := f') S hr hlocks h (fun q : bw_A1 => (bw_tW cy b0 b1 cn cc q)) hI dX3_insertRow_53 hQ
      rw [if_neg c_27] at h
      refine lv_aload_n hx hb dX3_insertRow_30 rfl (lv_at hl 0 rfl) ?_
      refine bw_get S hK hI 0 1 rfl rfl (by decide) i_X3 f_X3_19 rfl dX3_insertRow_31 ?_
      refine lv_iload_n hx hb dX3_insertRow_34 rfl (lv_at hl 2 rfl) ?_
      refine lv_aload_n hx hb dX3_insertRow_35 rfl (lv_at hl 0 rfl) ?_
      refine bw_get S hK hI 0 1 rfl rfl (by decide) i_X3 f_X3_19 rfl dX3_insertRow_36 ?_
      refine lv_iload_n hx hb dX3_insertRow_39 rfl (lv_at hl 2 rfl) ?_
      refine lv_aload_n hx hb dX3_insertRow_40 rfl (lv_at hl 0 rfl) ?_
      refine bw_get S hK hI 0 0 rfl rfl (by decide) i_X3 f_X3_7 rfl dX3_insertRow_41 ?_
      refine lv_isub hx hb dX3_insertRow_44 ?_
      obtain ⟨v45, hv, h⟩ := bw_b1_e h
      refine bw_iald hx hb hK hI 1 hv rfl dX3_insertRow_45 ?_
      obtain ⟨f_46, hv, h⟩ := bw_b1_e h
      refine bw_iast hx hb hK hI 1 (ws' := (bw_tW cy b0 b1 cn cc f_46)) hv rfl rfl dX3_insertRow_46 (fun H locs hI => ?_)
      obtain ⟨x3_47, e_47⟩ : ∃ y : Int32, y = x3 + (-1) := ⟨_, rfl⟩
      have h := bw_let_e h e_47
      refine lv_iinc (v := x3_47) (lv' := [(3, .int x3_47), (0, .ref b0), (2, .int x2)]) hx hb dX3_insertRow_47 hl (k := 2) rfl (by rw [e_47]; rfl) (by decide) rfl (fun ls hl => ?_)
      clear e_47
      refine lv_goto (tgt := 17) hx hb dX3_insertRow_50 (by decide) ?_
      exact ih _ _ _ f_46 x3_47 h hI (lv_sub hl [1,2,0] rfl)
  unfold fX3_insertRow at h
  refine lv_iload_n hx hb dX3_insertRow_0 rfl (lv_at hl 1 rfl) ?_
  refine lv_iconst (v := 1) hx hb dX3_insertRow_1 rfl ?_
  refine lv_iadd hx hb dX3_insertRow_2 ?_
  refine lv_aload_n hx hb dX3_insertRow_3 rfl (lv_at hl 0 rfl) ?_
  refine bw_get S hK hI 0 0 rfl rfl (by decide) i_X3 f_X3_7 rfl dX3_insertRow_4 ?_
  refine lv_imul hx hb dX3_insertRow_7 ?_
  refine lv_topi (fun x2_8 e_8 => ?_)
  have h := bw_let_e h e_8
  clear e_8
  refine lv_istore_n (lv' := [(2, .int x2_8), (0, .ref b0), (1, .int p1)]) hx hb dX3_insertRow_8 rfl hl (by decide) rfl (fun ls hl => ?_)
  refine lv_aload_n hx hb dX3_insertRow_9 rfl (lv_at hl 1 rfl) ?_
  refine bw_get S hK hI 0 1 rfl rfl (by decide) i_X3 f_X3_19 rfl dX3_insertRow_10 ?_
  refine bw_alen hx hb hK hI 1 (v := (Int32.ofNat cn)) rfl rfl dX3_insertRow_13 ?_
  refine lv_iconst (v := 1) hx hb dX3_insertRow_14 rfl ?_
  refine lv_isub hx hb dX3_insertRow_15 ?_
  refine lv_topi (fun x3_16 e_16 => ?_)
  have h := bw_let_e h e_16
  clear e_16
  refine lv_istore_n (lv' := [(3, .int x3_16), (2, .int x2_8), (0, .ref b0), (1, .int p1)]) hx hb dX3_insertRow_16 rfl hl (by decide) rfl (fun ls hl => ?_)
  exact l17 x2_8 bw_fu _ _ _ f x3_16 h hI (lv_sub hl [2,1,0] rfl)
