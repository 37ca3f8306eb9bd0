set_option maxHeartbeats 4000000 in
set_option maxRecDepth 100000 in
theorem mJxe99ae_isNaN_b9ae7 (l : Launch) (G : va_G) (cy : Nat → ClassId) (g : Nat) (p0 : UInt64) (r : Int32) (h : fJxe99ae_isNaN_b9ae7 p0 = some r) : bw_M l yJxe99ae_isNaN_b9ae7 cJxe99ae_isNaN_b9ae7 2 (some .boolean) 0 0 G cy g [.double p0] [] (some (.int r)) [] := by
  refine bw_ofW (by decide +kernel) RJxe99ae rfl (Nat.le_of_ble_eq_true rfl) ?_
  intro p e s m below meth c ls S hr hlocks hK hZ hI hl
  have hx := S.1
  have hb := S.2.1
  have hown := S.2.2.2.1
  have hts := S.2.2.2.2
  generalize va_A _ s.heap.size = A at hI hZ ⊢
  generalize hQ : MQ below _ _ s 0 0 A = Q
  have hl : lv_has ls 2 [(0, .double p0)] := hl
  unfold fJxe99ae_isNaN_b9ae7 at h
  refine lv_dload_n hx hb dJxe99ae_isNaN_b9ae7_0 rfl (lv_at hl 0 rfl) ?_
  refine lv_dload_n hx hb dJxe99ae_isNaN_b9ae7_1 rfl (lv_at hl 0 rfl) ?_
  refine lv_dcmp hx hb dJxe99ae_isNaN_b9ae7_2 ?_
  refine lv_if_eq (tgt := 10) hx hb dJxe99ae_isNaN_b9ae7_3 (by decide) (fun c_3 => ?_) (fun c_3 => ?_)
  · rw [if_pos c_3] at h
    refine lv_iconst (v := 0) hx hb dJxe99ae_isNaN_b9ae7_10 rfl ?_
    exact bw_iretP S hr hlocks h hI rfl dJxe99ae_isNaN_b9ae7_11 hQ
  rw [if_neg c_3] at h
  refine lv_iconst (v := 1) hx hb dJxe99ae_isNaN_b9ae7_6 rfl ?_
  refine lv_goto (tgt := 11) hx hb dJxe99ae_isNaN_b9ae7_7 (by decide) ?_
  exact bw_iretP S hr hlocks h hI rfl dJxe99ae_isNaN_b9ae7_11 hQ
set_option maxHeartbeats 4000000 in
set_option maxRecDepth 100000 in
theorem mJxe99ae_doubleToLongBits_ccdee (l : Launch) (G : va_G) (cy : Nat → ClassId) (g : Nat) (p0 : UInt64) (r : Int64) (h : fJxe99ae_doubleToLongBits_ccdee p0 = some r) : bw_M l yJxe99ae_doubleToLongBits_ccdee cJxe99ae_doubleToLongBits_ccdee 2 (some .long) 1 23 G cy g [.double p0] [] (some (.long r)) [] := by
  refine bw_ofW (by decide +kernel) RJxe99ae rfl (Nat.le_of_ble_eq_true rfl) ?_
  intro p e s m below meth c ls S hr hlocks hK hZ hI hl
  have hx := S.1
  have hb := S.2.1
  have hown := S.2.2.2.1
  have hts := S.2.2.2.2
  generalize va_A _ s.heap.size = A at hI hZ ⊢
  generalize hQ : MQ below _ _ s 0 0 A = Q
  have hl : lv_has ls 2 [(0, .double p0)] := hl
  unfold fJxe99ae_doubleToLongBits_ccdee at h
  refine lv_dload_n hx hb dJxe99ae_doubleToLongBits_ccdee_0 rfl (lv_at hl 0 rfl) ?_
  obtain ⟨r1, hc, h⟩ := bw_b1_e h
  refine bw_callP S hK hZ hI (mJxe99ae_isNaN_b9ae7 l G cy g p0 r1 hc) Y_Jxe99ae_isNaN_b9ae7 V_Jxe99ae_isNaN_b9ae7 l_Jxe99ae_122 ⟨(Nat.le_of_ble_eq_true rfl), (Nat.le_of_ble_eq_true rfl)⟩ (rest := []) (st1 := [.int r1]) rfl hl.1 rfl rfl (Nat.le_of_ble_eq_true rfl) dJxe99ae_doubleToLongBits_ccdee_1 ⟨(Nat.le_of_ble_eq_true rfl), (Nat.le_of_ble_eq_true rfl)⟩ (fun H locs hI => ?_)
  refine lv_if_ne (tgt := 12) hx hb dJxe99ae_doubleToLongBits_ccdee_4 (by decide) (fun c_4 => ?_) (fun c_4 => ?_)
  · rw [if_neg c_4] at h
    refine lv_ldc2 hx hb hown (hts _ (List.mem_cons_of_mem _ k_Jxe99ae_137)) dJxe99ae_doubleToLongBits_ccdee_12 ?_
    exact bw_lretP S hr hlocks h hI dJxe99ae_doubleToLongBits_ccdee_15 hQ
  rw [if_pos c_4] at h
  refine lv_dload_n hx hb dJxe99ae_doubleToLongBits_ccdee_7 rfl (lv_at hl 0 rfl) ?_
  refine vn_d2l hx hb (S.2.2.1.trans hl.1.symm) hown (hts _ (List.mem_cons_of_mem _ l_Jxe99ae_134)) (hts _ (List.mem_cons_of_mem _ l_JD_n)) (hts _ (List.mem_cons_of_mem _ l_JD_s)) (hts _ (List.mem_cons_of_mem _ l_JD_i)) (Nat.le_of_ble_eq_true rfl) (Nat.le_of_ble_eq_true rfl) dJxe99ae_doubleToLongBits_ccdee_8 ?_
  exact bw_lretP S hr hlocks h hI dJxe99ae_doubleToLongBits_ccdee_11 hQ
