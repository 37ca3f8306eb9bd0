/-! ===== statics, arraycopy; copyFrom; the saved states (printed by manual.py) ===== -/
theorem bw_mv6 (a b c d e f h r : va_W) : (a ++ (b ++ (c ++ (d ++ (e ++ (f ++ (h ++ r))))))).Perm (h ++ (a ++ (b ++ (c ++ (d ++ (e ++ (f ++ r))))))) := (List.Perm.append_left a (bw_mv5 b c d e f h r)).trans (bw_mv1 a h _)
section BWS
variable {p : Program} {l : Launch} {e : Env} {R : Room} {s : State} {m : MethodId} {args : Array Value} {below : List Frame} {meth : Method} {c : Code} {H : Heap} {locs : List Loc} {cells slots : Nat} {Q : State → Prop}
variable {cc : ByteArray} {nL pc : Nat} {ls : Array Slot} {rest : List Value} {G : va_G} {cy : Nat → ClassId} {A : Nat → Prop} {ws : va_W} {own : String} {x0 : Cond} {a g : Nat}
theorem bw_gets (S : CallFix p m c cc nL s args (x0 :: bw_L) own) (hZ : bw_Z g A s s.heap) (hI : bw_I G A s.heap ws H locs) {index : Nat} (hlink : Cond.fieldLink own index "BufferLoans" "GREATEST_VALUES" "[I" ∈ bw_L) (hdg : decode cc pc = .ok (.getstatic index, 3)) (kk : W p l e R s m args below meth c H locs cells slots Q (F0 m (pc + 3) ls (.ref g :: rest))) : W p l e R s m args below meth c H locs cells slots Q (F0 m pc ls rest) := by
  obtain ⟨hx, hb, -, hown, hts⟩ := S
  exact va_gets hx hb hZ.1 hI.2.2.1 hown (hts _ (List.mem_cons_of_mem _ hlink)) (fun _ h => h) hdg kk
theorem bw_sld (hx : p.tables.exec = Jvm.exec) (hb : c.code = cc) (hZ : bw_Z g A s s.heap) (hI : bw_I G A s.heap ws H locs) {i v : Int32} (hv : bw_rd 3 bw_gv i = some v) (hdg : decode cc pc = .ok (.iaload, 1)) (kk : W p l e R s m args below meth c H locs cells slots Q (F0 m (pc + 1) ls (.int v :: rest))) : W p l e R s m args below meth c H locs cells slots Q (F0 m pc ls (.int i :: .ref g :: rest)) := by
  obtain ⟨h1, rfl⟩ := bw_rd_e hv
  exact va_ti hx hb hZ.2.1 hI.2.2.1 h1 rfl hdg kk
theorem bw_slen (hx : p.tables.exec = Jvm.exec) (hb : c.code = cc) (hZ : bw_Z g A s s.heap) (hI : bw_I G A s.heap ws H locs) (hdg : decode cc pc = .ok (.arraylength, 1)) (kk : W p l e R s m args below meth c H locs cells slots Q (F0 m (pc + 1) ls (.int 3 :: rest))) : W p l e R s m args below meth c H locs cells slots Q (F0 m pc ls (.ref g :: rest)) :=
  va_tlen hx hb hZ.2.1 hI.2.2.1 rfl hdg kk
/-- what arraycopy leaves of the row f when n places of f2 are copied over it -/
def bw_cp (n : Nat) (f2 f : bw_A1) : bw_A1 := va_cpy f2 f 0 0 n
theorem bw_copyi (S : CallFix p m c cc nL s args (x0 :: bw_L) own) (hsz : ls.size = nL) (hK : va_K G vwCl (bw_tys cy) s) (hI : bw_I G A s.heap ws H locs) (q0 q1 : Nat) {a0 n index : Nat} {f2 f : bw_A1} {ws' : va_W} (hlink : Cond.methodLink own index arraycopyName ∈ bw_L) (hnat : Cond.native arraycopyName ∈ bw_L) (hstat : Cond.static arraycopyName ∈ bw_L) (hini : Cond.initialized "java/lang/System" ∈ bw_L)
    (ha0 : ws[q0]? = some (a0, .inl (cy 0, n, .inl f2))) (ha1 : ws[q1]? = some (a, .inl (cy 0, n, .inl f))) (hn : n < 2 ^ 31) (hw : ws.set q1 (a, .inl (cy 0, n, .inl (bw_cp n f2 f))) = ws') (hframes : 1 ≤ R.frames) (hlocals : (rest.map fun v => v.category).sum + 18 ≤ R.locals) (hdg : decode cc pc = .ok (.invokestatic index, 3))
    (kk : ∀ (H1 : Heap) (locs1 : List Loc), bw_I G A s.heap ws' H1 locs1 → W p l e R s m args below meth c H1 locs1 cells slots Q (F0 m (pc + 3) ls rest)) : W p l e R s m args below meth c H locs cells slots Q (F0 m pc ls (.int (nI n) :: .int 0 :: .ref a :: .int 0 :: .ref a0 :: rest)) := by
  obtain ⟨hx, hb, hml, hown, hts⟩ := S
  subst hw
  have e0 : (0 : Int32).toNatClampNeg = 0 := sb_cl0
  have en : (nI n).toNatClampNeg = n := nI_clamp hn
  refine va_copyi hx hb (hml.trans hsz.symm) hown (hts _ (List.mem_cons_of_mem _ hlink)) (hts _ (List.mem_cons_of_mem _ hnat)) (hts _ (List.mem_cons_of_mem _ hstat)) (hts _ (List.mem_cons_of_mem _ hini)) hK hI.1 hI.2.1 hI.2.2.1 q0 q1 0 0 ha0 ha1 (ty := .int) rfl rfl rfl (by decide) (by decide) (nI_pos hn) (by rw [e0, en]; omega) (by rw [e0, en]; omega) (fun _ _ => rfl) hframes hlocals hdg ?_
  rw [e0, en]
  exact fun H1 locs1 q1 q2 q3 => kk H1 locs1 ⟨q1, q2, q3, hI.2.2.2⟩
end BWS
theorem bw_min_self (x : Int32) : bw_min x x = x := by
  unfold bw_min
  split <;> rfl
set_option maxRecDepth 100000 in
theorem l_X3_26 : (Jvm.Cond.methodLink "BufferLoans$Table" (26 : Nat) ({ cls := "java/lang/System", name := "arraycopy", desc := "(Ljava/lang/Object;ILjava/lang/Object;II)V" } : Jvm.MethodName)) ∈ bw_L := bw_memT 326 rfl rfl
set_option maxRecDepth 100000 in
theorem l_JS_s : (Jvm.Cond.static ({ cls := "java/lang/System", name := "arraycopy", desc := "(Ljava/lang/Object;ILjava/lang/Object;II)V" } : Jvm.MethodName)) ∈ bw_L := bw_memT 327 rfl rfl
set_option maxRecDepth 100000 in
theorem l_JS_n : (Jvm.Cond.native ({ cls := "java/lang/System", name := "arraycopy", desc := "(Ljava/lang/Object;ILjava/lang/Object;II)V" } : Jvm.MethodName)) ∈ bw_L := bw_memT 328 rfl rfl
set_option maxRecDepth 100000 in
theorem l_JS_i : (Jvm.Cond.initialized "java/lang/System") ∈ bw_L := bw_memT 14 rfl rfl
set_option maxRecDepth 100000 in
theorem Y_X3_copyFrom : bw_Y yX3_copyFrom cX3_copyFrom 2 none 1 := ⟨bw_memT 324 rfl rfl, bw_memT 3 rfl rfl, ⟨by decide +kernel, by decide +kernel⟩, by decide +kernel⟩
set_option maxRecDepth 100000 in
theorem V_X3_copyFrom : Cond.instanceMethod yX3_copyFrom ∈ bw_L ∧ Cond.selects RX3 yX3_copyFrom yX3_copyFrom ∈ bw_L := ⟨bw_memT 322 rfl rfl, bw_memT 323 rfl rfl⟩
set_option maxRecDepth 100000 in
theorem l_X3_23 : (Jvm.Cond.methodLink "BufferLoans$Table" (23 : Nat) ({ cls := "java/lang/Math", name := "min", desc := "(II)I" } : Jvm.MethodName)) ∈ bw_L := bw_memT 325 rfl rfl
set_option maxHeartbeats 4000000 in
set_option maxRecDepth 100000 in
theorem mX3_copyFrom (l : Launch) (G : va_G) (cy : Nat → ClassId) (g : Nat) (b0 b1 c0 c1 n : Nat) (cc cc2 : Int32) (f f2 : bw_A1) (hn : n < 2 ^ 31) : bw_M l yX3_copyFrom cX3_copyFrom 2 none 1 25 G cy g [.ref b0, .ref c0] (bw_tW cy b0 b1 n cc f ++ (bw_tW cy c0 c1 n cc2 f2 ++ [])) none (bw_tW cy b0 b1 n cc (bw_cp n f2 f) ++ (bw_tW cy c0 c1 n cc2 f2 ++ [])) := by
  refine bw_ofW (by decide +kernel) RX3 rfl (Nat.le_of_ble_eq_true rfl) ?_
  intro p e s m below meth c ls S hr hlocks hK hZ hI hl
  have hx := S.1
  have hb := S.2.1
  have hown := S.2.2.2.1
  have hts := S.2.2.2.2
  generalize va_A _ s.heap.size = A at hI hZ ⊢
  generalize hQ : MQ below _ _ s 0 0 A = Q
  have hl : lv_has ls 2 [(0, .ref b0), (1, .ref c0)] := hl
  refine lv_aload_n hx hb dX3_copyFrom_0 rfl (lv_at hl 1 rfl) ?_
  refine bw_get S hK hI 2 1 rfl rfl (by decide) i_X3 f_X3_19 rfl dX3_copyFrom_1 ?_
  refine lv_iconst (v := 0) hx hb dX3_copyFrom_4 rfl ?_
  refine lv_aload_n hx hb dX3_copyFrom_5 rfl (lv_at hl 0 rfl) ?_
  refine bw_get S hK hI 0 1 rfl rfl (by decide) i_X3 f_X3_19 rfl dX3_copyFrom_6 ?_
  refine lv_iconst (v := 0) hx hb dX3_copyFrom_9 rfl ?_
  refine lv_aload_n hx hb dX3_copyFrom_10 rfl (lv_at hl 1 rfl) ?_
  refine bw_get S hK hI 2 1 rfl rfl (by decide) i_X3 f_X3_19 rfl dX3_copyFrom_11 ?_
  refine bw_alen hx hb hK hI 3 (v := nI n) rfl rfl dX3_copyFrom_14 ?_
  refine lv_aload_n hx hb dX3_copyFrom_15 rfl (lv_at hl 0 rfl) ?_
  refine bw_get S hK hI 0 1 rfl rfl (by decide) i_X3 f_X3_19 rfl dX3_copyFrom_16 ?_
  refine bw_alen hx hb hK hI 1 (v := nI n) rfl rfl dX3_copyFrom_19 ?_
  refine bw_mmin S (rest := [.int 0, .ref b1, .int 0, .ref c1]) hl.1 l_X3_23 l_JM_min_s l_JM_i l_JM_min_c (Nat.le_of_ble_eq_true rfl) (Nat.le_of_ble_eq_true rfl) ⟨Nat.le_refl _, Nat.le_refl _⟩ dX3_copyFrom_20 ?_
  rw [bw_min_self]
  refine bw_copyi S hl.1 hK hI 3 1 (rest := []) (ws' := bw_tW cy b0 b1 n cc (bw_cp n f2 f) ++ (bw_tW cy c0 c1 n cc2 f2 ++ [])) l_X3_26 l_JS_n l_JS_s l_JS_i rfl rfl hn rfl (Nat.le_of_ble_eq_true rfl) (Nat.le_of_ble_eq_true rfl) dX3_copyFrom_23 (fun H locs hI => ?_)
  exact bw_vretP S hr hlocks hI dX3_copyFrom_26 hQ
theorem bw_pp {X Y t r t2 r2 : va_W} (h1 : X.Perm (t ++ r)) (h2 : Y.Perm (t2 ++ r2)) : (X ++ (Y ++ [])).Perm ((t ++ (t2 ++ [])) ++ (r ++ r2)) := by
  rw [List.append_nil, List.append_nil]
  refine (List.Perm.append h1 h2).trans ?_
  rw [List.append_assoc, List.append_assoc]
  exact List.Perm.append_left t (bw_mv1 r t2 r2)
set_option maxRecDepth 100000 in
theorem Y_X0_copyFrom : bw_Y yX0_copyFrom cX0_copyFrom 2 none 1 := ⟨bw_memT 320 rfl rfl, bw_memT 2 rfl rfl, ⟨by decide +kernel, by decide +kernel⟩, by decide +kernel⟩
set_option maxRecDepth 100000 in
theorem V_X0_copyFrom : Cond.instanceMethod yX0_copyFrom ∈ bw_L ∧ Cond.selects RX0 yX0_copyFrom yX0_copyFrom ∈ bw_L := ⟨bw_memT 318 rfl rfl, bw_memT 319 rfl rfl⟩
set_option maxRecDepth 100000 in
theorem l_X0_40 : (Jvm.Cond.methodLink "BufferLoans$Desk" (40 : Nat) ({ cls := "BufferLoans$Table", name := "copyFrom", desc := "(LBufferLoans$Table;)V" } : Jvm.MethodName)) ∈ bw_L := bw_memT 321 rfl rfl
set_option maxHeartbeats 4000000 in
set_option maxRecDepth 100000 in
theorem mX0_copyFrom (l : Launch) (G : va_G) (cy : Nat → ClassId) (g : Nat) (a a2 : Nat → Nat) (tp tk tl ts tq : bw_A1) (np nl : Int32) (up uk ul us uq : bw_A1) (mp ml : Int32) : bw_M l yX0_copyFrom cX0_copyFrom 2 none 2 46 G cy g [.ref (a 0), .ref (a2 0)] (bw_dW cy a tp tk tl ts tq np nl ++ (bw_dW cy a2 up uk ul us uq mp ml ++ [])) none (bw_dW cy a (bw_cp 84 up tp) (bw_cp 288 uk tk) (bw_cp 90 ul tl) (bw_cp 3 us ts) tq mp ml ++ (bw_dW cy a2 up uk ul us uq mp ml ++ [])) := by
  refine bw_ofW (by decide +kernel) RX0 rfl (Nat.le_of_ble_eq_true rfl) ?_
  intro p e s m below meth c ls S hr hlocks hK hZ hI hl
  have hx := S.1
  have hb := S.2.1
  have hown := S.2.2.2.1
  have hts := S.2.2.2.2
  generalize va_A _ s.heap.size = A at hI hZ ⊢
  generalize hQ : MQ below _ _ s 0 0 A = Q
  have hl : lv_has ls 2 [(0, .ref (a 0)), (1, .ref (a2 0))] := hl
  refine lv_aload_n hx hb dX0_copyFrom_0 rfl (lv_at hl 0 rfl) ?_
  refine bw_get S hK hI 0 0 rfl rfl (by decide) i_X0 f_X0_14 rfl dX0_copyFrom_1 ?_
  refine lv_aload_n hx hb dX0_copyFrom_4 rfl (lv_at hl 1 rfl) ?_
  refine bw_get S hK hI 11 0 rfl rfl (by decide) i_X0 f_X0_14 rfl dX0_copyFrom_5 ?_
  refine bw_callV S hK hZ hI (mX3_copyFrom l G cy g (a 1) (a 2) (a2 1) (a2 2) 84 14 14 tp up (by decide)) Y_X3_copyFrom V_X3_copyFrom l_X0_40 ⟨(Nat.le_of_ble_eq_true rfl), (Nat.le_of_ble_eq_true rfl)⟩ (q0 := 0) rfl rfl rfl (ws' := (bw_dW cy a (bw_cp 84 up tp) tk tl ts tq np nl ++ (bw_dW cy a2 up uk ul us uq mp ml ++ []))) (bw_pp (bw_pd0 cy a tp tk tl ts tq np nl) (bw_pd0 cy a2 up uk ul us uq mp ml)) (bw_pp (bw_pd0 cy a (bw_cp 84 up tp) tk tl ts tq np nl) (bw_pd0 cy a2 up uk ul us uq mp ml)).symm rfl rfl hl.1 (rest := []) (st1 := []) rfl rfl (Nat.le_of_ble_eq_true rfl) dX0_copyFrom_8 ⟨Nat.le_refl _, Nat.le_refl _⟩ (fun H locs hI => ?_)
  refine lv_aload_n hx hb dX0_copyFrom_11 rfl (lv_at hl 0 rfl) ?_
  refine bw_get S hK hI 0 1 rfl rfl (by decide) i_X0 f_X0_20 rfl dX0_copyFrom_12 ?_
  refine lv_aload_n hx hb dX0_copyFrom_15 rfl (lv_at hl 1 rfl) ?_
  refine bw_get S hK hI 11 1 rfl rfl (by decide) i_X0 f_X0_20 rfl dX0_copyFrom_16 ?_
  refine bw_callV S hK hZ hI (mX3_copyFrom l G cy g (a 3) (a 4) (a2 3) (a2 4) 288 6 6 tk uk (by decide)) Y_X3_copyFrom V_X3_copyFrom l_X0_40 ⟨(Nat.le_of_ble_eq_true rfl), (Nat.le_of_ble_eq_true rfl)⟩ (q0 := 0) rfl rfl rfl (ws' := (bw_dW cy a (bw_cp 84 up tp) (bw_cp 288 uk tk) tl ts tq np nl ++ (bw_dW cy a2 up uk ul us uq mp ml ++ []))) (bw_pp (bw_pd1 cy a (bw_cp 84 up tp) tk tl ts tq np nl) (bw_pd1 cy a2 up uk ul us uq mp ml)) (bw_pp (bw_pd1 cy a (bw_cp 84 up tp) (bw_cp 288 uk tk) tl ts tq np nl) (bw_pd1 cy a2 up uk ul us uq mp ml)).symm rfl rfl hl.1 (rest := []) (st1 := []) rfl rfl (Nat.le_of_ble_eq_true rfl) dX0_copyFrom_19 ⟨Nat.le_refl _, Nat.le_refl _⟩ (fun H locs hI => ?_)
  refine lv_aload_n hx hb dX0_copyFrom_22 rfl (lv_at hl 0 rfl) ?_
  refine bw_get S hK hI 0 2 rfl rfl (by decide) i_X0 f_X0_23 rfl dX0_copyFrom_23 ?_
  refine lv_aload_n hx hb dX0_copyFrom_26 rfl (lv_at hl 1 rfl) ?_
  refine bw_get S hK hI 11 2 rfl rfl (by decide) i_X0 f_X0_23 rfl dX0_copyFrom_27 ?_
  refine bw_callV S hK hZ hI (mX3_copyFrom l G cy g (a 5) (a 6) (a2 5) (a2 6) 90 3 3 tl ul (by decide)) Y_X3_copyFrom V_X3_copyFrom l_X0_40 ⟨(Nat.le_of_ble_eq_true rfl), (Nat.le_of_ble_eq_true rfl)⟩ (q0 := 0) rfl rfl rfl (ws' := (bw_dW cy a (bw_cp 84 up tp) (bw_cp 288 uk tk) (bw_cp 90 ul tl) ts tq np nl ++ (bw_dW cy a2 up uk ul us uq mp ml ++ []))) (bw_pp (bw_pd2 cy a (bw_cp 84 up tp) (bw_cp 288 uk tk) tl ts tq np nl) (bw_pd2 cy a2 up uk ul us uq mp ml)) (bw_pp (bw_pd2 cy a (bw_cp 84 up tp) (bw_cp 288 uk tk) (bw_cp 90 ul tl) ts tq np nl) (bw_pd2 cy a2 up uk ul us uq mp ml)).symm rfl rfl hl.1 (rest := []) (st1 := []) rfl rfl (Nat.le_of_ble_eq_true rfl) dX0_copyFrom_30 ⟨Nat.le_refl _, Nat.le_refl _⟩ (fun H locs hI => ?_)
  refine lv_aload_n hx hb dX0_copyFrom_33 rfl (lv_at hl 0 rfl) ?_
  refine bw_get S hK hI 0 3 rfl rfl (by decide) i_X0 f_X0_30 rfl dX0_copyFrom_34 ?_
  refine lv_aload_n hx hb dX0_copyFrom_37 rfl (lv_at hl 1 rfl) ?_
  refine bw_get S hK hI 11 3 rfl rfl (by decide) i_X0 f_X0_30 rfl dX0_copyFrom_38 ?_
  refine bw_callV S hK hZ hI (mX3_copyFrom l G cy g (a 7) (a 8) (a2 7) (a2 8) 3 3 3 ts us (by decide)) Y_X3_copyFrom V_X3_copyFrom l_X0_40 ⟨(Nat.le_of_ble_eq_true rfl), (Nat.le_of_ble_eq_true rfl)⟩ (q0 := 0) rfl rfl rfl (ws' := (bw_dW cy a (bw_cp 84 up tp) (bw_cp 288 uk tk) (bw_cp 90 ul tl) (bw_cp 3 us ts) tq np nl ++ (bw_dW cy a2 up uk ul us uq mp ml ++ []))) (bw_pp (bw_pd3 cy a (bw_cp 84 up tp) (bw_cp 288 uk tk) (bw_cp 90 ul tl) ts tq np nl) (bw_pd3 cy a2 up uk ul us uq mp ml)) (bw_pp (bw_pd3 cy a (bw_cp 84 up tp) (bw_cp 288 uk tk) (bw_cp 90 ul tl) (bw_cp 3 us ts) tq np nl) (bw_pd3 cy a2 up uk ul us uq mp ml)).symm rfl rfl hl.1 (rest := []) (st1 := []) rfl rfl (Nat.le_of_ble_eq_true rfl) dX0_copyFrom_41 ⟨Nat.le_refl _, Nat.le_refl _⟩ (fun H locs hI => ?_)
  refine lv_aload_n hx hb dX0_copyFrom_44 rfl (lv_at hl 0 rfl) ?_
  refine lv_aload_n hx hb dX0_copyFrom_45 rfl (lv_at hl 1 rfl) ?_
  refine bw_get S hK hI 11 5 rfl rfl (by decide) i_X0 f_X0_44 rfl dX0_copyFrom_46 ?_
  refine bw_put S hK hI 0 5 (ws' := (bw_dW cy a (bw_cp 84 up tp) (bw_cp 288 uk tk) (bw_cp 90 ul tl) (bw_cp 3 us ts) tq mp nl ++ (bw_dW cy a2 up uk ul us uq mp ml ++ []))) tyX0 tyX0_ok nmX0 rfl rfl (by decide) i_X0 f_X0_44 rfl rfl rfl rfl (Nat.le_of_ble_eq_true rfl) rfl dX0_copyFrom_49 (fun H locs hI => ?_)
  refine lv_aload_n hx hb dX0_copyFrom_52 rfl (lv_at hl 0 rfl) ?_
  refine lv_aload_n hx hb dX0_copyFrom_53 rfl (lv_at hl 1 rfl) ?_
  refine bw_get S hK hI 11 6 rfl rfl (by decide) i_X0 f_X0_48 rfl dX0_copyFrom_54 ?_
  refine bw_put S hK hI 0 6 (ws' := (bw_dW cy a (bw_cp 84 up tp) (bw_cp 288 uk tk) (bw_cp 90 ul tl) (bw_cp 3 us ts) tq mp ml ++ (bw_dW cy a2 up uk ul us uq mp ml ++ []))) tyX0 tyX0_ok nmX0 rfl rfl (by decide) i_X0 f_X0_48 rfl rfl rfl rfl (Nat.le_of_ble_eq_true rfl) rfl dX0_copyFrom_57 (fun H locs hI => ?_)
  exact bw_vretP S hr hlocks hI dX0_copyFrom_60 hQ
/-- the desk t behind t.copyFrom(d): all but the queue is d's -/
def bw_cpD (t d : bw_A2) : bw_A2 := fun j => if j = 0 then bw_cp 84 (d 0) (t 0) else if j = 1 then bw_cp 288 (d 1) (t 1) else if j = 2 then bw_cp 90 (d 2) (t 2) else if j = 3 then bw_cp 3 (d 3) (t 3) else if j = 5 then upd (upd (t 5) 0 (d 5 0)) 1 (d 5 1) else t j
theorem mX0_copyFromD (l : Launch) (G : va_G) (cy : Nat → ClassId) (g : Nat) (a a2 : Nat → Nat) (t d : bw_A2) : bw_M l yX0_copyFrom cX0_copyFrom 2 none 2 46 G cy g [.ref (a 0), .ref (a2 0)] (bw_dD cy a t ++ (bw_dD cy a2 d ++ [])) none (bw_dD cy a (bw_cpD t d) ++ (bw_dD cy a2 d ++ [])) :=
  mX0_copyFrom l G cy g a a2 (t 0) (t 1) (t 2) (t 3) (t 4) (t 5 0) (t 5 1) (d 0) (d 1) (d 2) (d 3) (d 4) (d 5 0) (d 5 1)
set_option maxRecDepth 100000 in
theorem Y_X1_slotAt : bw_Y yX1_slotAt cX1_slotAt 2 (some (.object "BufferLoans$Desk")) 1 := ⟨bw_memT 510 rfl rfl, bw_memT 5 rfl rfl, ⟨by decide +kernel, by decide +kernel⟩, by decide +kernel⟩
set_option maxRecDepth 100000 in
theorem V_X1_slotAt : Cond.instanceMethod yX1_slotAt ∈ bw_L ∧ Cond.selects RX1 yX1_slotAt yX1_slotAt ∈ bw_L := ⟨bw_memT 509 rfl rfl, bw_mem 21 rfl rfl⟩
set_option maxRecDepth 100000 in
theorem Y_X1_keep : bw_Y yX1_keep cX1_keep 3 none 1 := ⟨bw_memT 506 rfl rfl, bw_memT 5 rfl rfl, ⟨by decide +kernel, by decide +kernel⟩, by decide +kernel⟩
set_option maxRecDepth 100000 in
theorem V_X1_keep : Cond.instanceMethod yX1_keep ∈ bw_L ∧ Cond.selects RX1 yX1_keep yX1_keep ∈ bw_L := ⟨bw_memT 504 rfl rfl, bw_memT 505 rfl rfl⟩
set_option maxRecDepth 100000 in
theorem Y_X1_giveBack : bw_Y yX1_giveBack cX1_giveBack 3 none 1 := ⟨bw_memT 673 rfl rfl, bw_memT 5 rfl rfl, ⟨by decide +kernel, by decide +kernel⟩, by decide +kernel⟩
set_option maxRecDepth 100000 in
theorem V_X1_giveBack : Cond.instanceMethod yX1_giveBack ∈ bw_L ∧ Cond.selects RX1 yX1_giveBack yX1_giveBack ∈ bw_L := ⟨bw_memT 671 rfl rfl, bw_memT 672 rfl rfl⟩
set_option maxRecDepth 100000 in
theorem Y_X1_size : bw_Y yX1_size cX1_size 1 (some .int) 0 := ⟨bw_memT 266 rfl rfl, bw_memT 5 rfl rfl, ⟨by decide +kernel, by decide +kernel⟩, by decide +kernel⟩
set_option maxRecDepth 100000 in
theorem V_X1_size : Cond.instanceMethod yX1_size ∈ bw_L ∧ Cond.selects RX1 yX1_size yX1_size ∈ bw_L := ⟨bw_memT 264 rfl rfl, bw_memT 265 rfl rfl⟩
set_option maxRecDepth 100000 in
theorem f_X1_11 : (Jvm.Cond.fieldLink "BufferLoans$History" (11 : Nat) "BufferLoans$History" "slots" "[LBufferLoans$Desk;") ∈ bw_L := bw_memT 85 rfl rfl
set_option maxRecDepth 100000 in
theorem f_X1_22 : (Jvm.Cond.fieldLink "BufferLoans$History" (22 : Nat) "BufferLoans$History" "next" "I") ∈ bw_L := bw_memT 86 rfl rfl
set_option maxRecDepth 100000 in
theorem f_X1_18 : (Jvm.Cond.fieldLink "BufferLoans$History" (18 : Nat) "BufferLoans$History" "size" "I") ∈ bw_L := bw_memT 87 rfl rfl
set_option maxRecDepth 100000 in
theorem l_X1_25 : (Jvm.Cond.methodLink "BufferLoans$History" (25 : Nat) ({ cls := "BufferLoans$History", name := "slotAt", desc := "(I)LBufferLoans$Desk;" } : Jvm.MethodName)) ∈ bw_L := bw_memT 507 rfl rfl
set_option maxRecDepth 100000 in
theorem l_X1_29 : (Jvm.Cond.methodLink "BufferLoans$History" (29 : Nat) ({ cls := "BufferLoans$Desk", name := "copyFrom", desc := "(LBufferLoans$Desk;)V" } : Jvm.MethodName)) ∈ bw_L := bw_memT 511 rfl rfl
set_option maxRecDepth 100000 in
theorem l_X1_33 : (Jvm.Cond.methodLink "BufferLoans$History" (33 : Nat) ({ cls := "java/lang/Math", name := "min", desc := "(II)I" } : Jvm.MethodName)) ∈ bw_L := bw_memT 512 rfl rfl
set_option maxRecDepth 100000 in
theorem l_X1_39 : (Jvm.Cond.methodLink "BufferLoans$History" (39 : Nat) ({ cls := "java/lang/Math", name := "max", desc := "(II)I" } : Jvm.MethodName)) ∈ bw_L := bw_memT 674 rfl rfl
def bw_hR (cy : Nat → ClassId) (b : Nat → Nat → Nat) (sl : bw_A3) (hn hs : Int32) : Nat → va_W
  | 0 => bw_hO cy b hn hs ++ (bw_dD cy (b 3) (sl 1) ++ (bw_dD cy (b 4) (sl 2) ++ (bw_dD cy (b 5) (sl 3) ++ (bw_dD cy (b 6) (sl 4) ++ (bw_dD cy (b 7) (sl 5) ++ [])))))
  | 1 => bw_hO cy b hn hs ++ (bw_dD cy (b 2) (sl 0) ++ (bw_dD cy (b 4) (sl 2) ++ (bw_dD cy (b 5) (sl 3) ++ (bw_dD cy (b 6) (sl 4) ++ (bw_dD cy (b 7) (sl 5) ++ [])))))
  | 2 => bw_hO cy b hn hs ++ (bw_dD cy (b 2) (sl 0) ++ (bw_dD cy (b 3) (sl 1) ++ (bw_dD cy (b 5) (sl 3) ++ (bw_dD cy (b 6) (sl 4) ++ (bw_dD cy (b 7) (sl 5) ++ [])))))
  | 3 => bw_hO cy b hn hs ++ (bw_dD cy (b 2) (sl 0) ++ (bw_dD cy (b 3) (sl 1) ++ (bw_dD cy (b 4) (sl 2) ++ (bw_dD cy (b 6) (sl 4) ++ (bw_dD cy (b 7) (sl 5) ++ [])))))
  | 4 => bw_hO cy b hn hs ++ (bw_dD cy (b 2) (sl 0) ++ (bw_dD cy (b 3) (sl 1) ++ (bw_dD cy (b 4) (sl 2) ++ (bw_dD cy (b 5) (sl 3) ++ (bw_dD cy (b 7) (sl 5) ++ [])))))
  | _ => bw_hO cy b hn hs ++ (bw_dD cy (b 2) (sl 0) ++ (bw_dD cy (b 3) (sl 1) ++ (bw_dD cy (b 4) (sl 2) ++ (bw_dD cy (b 5) (sl 3) ++ (bw_dD cy (b 6) (sl 4) ++ [])))))
theorem bw_ph (cy : Nat → ClassId) (b : Nat → Nat → Nat) (sl : bw_A3) (hn hs : Int32) (k : Nat) (hk : k < 6) : (bw_hW cy b sl hn hs).Perm (bw_dD cy (b (2 + k)) (sl k) ++ bw_hR cy b sl hn hs k) := by
  rcases (show k = 0 ∨ k = 1 ∨ k = 2 ∨ k = 3 ∨ k = 4 ∨ k = 5 by omega) with rfl | rfl | rfl | rfl | rfl | rfl
  · exact bw_mv1 _ _ _
  · exact bw_mv2 _ _ _ _
  · exact bw_mv3 _ _ _ _ _
  · exact bw_mv4 _ _ _ _ _ _
  · exact bw_mv5 _ _ _ _ _ _ _
  · exact bw_mv6 _ _ _ _ _ _ _ _
theorem bw_hR_up (cy : Nat → ClassId) (b : Nat → Nat → Nat) (sl : bw_A3) (hn hs : Int32) (k : Nat) (hk : k < 6) (x : bw_A2) : bw_hR cy b (va_up sl k x) hn hs k = bw_hR cy b sl hn hs k := by
  rcases (show k = 0 ∨ k = 1 ∨ k = 2 ∨ k = 3 ∨ k = 4 ∨ k = 5 by omega) with rfl | rfl | rfl | rfl | rfl | rfl <;> rfl
theorem bw_up_s {α : Type} (f : Nat → α) (k : Nat) (v : α) : va_up f k v k = v := if_pos rfl
theorem bw_ph_up (cy : Nat → ClassId) (b : Nat → Nat → Nat) (sl : bw_A3) (hn hs : Int32) (k : Nat) (hk : k < 6) (x : bw_A2) : (bw_dD cy (b (2 + k)) x ++ bw_hR cy b sl hn hs k).Perm (bw_hW cy b (va_up sl k x) hn hs) := by
  have h := bw_ph cy b (va_up sl k x) hn hs k hk
  rw [bw_hR_up cy b sl hn hs k hk x, bw_up_s] at h
  exact h.symm
set_option maxHeartbeats 4000000 in
set_option maxRecDepth 100000 in
theorem mX1_slotAt (l : Launch) (G : va_G) (cy : Nat → ClassId) (g : Nat) (b : Nat → Nat → Nat) (sl : bw_A3) (hn hs : Int32) (i : Int32) (hi : vp_in i 6) : bw_M l yX1_slotAt cX1_slotAt 2 (some (.object "BufferLoans$Desk")) 0 0 G cy g [.ref (b 8 0), .int i] (bw_hW cy b sl hn hs) (some (.ref (b (2 + i.toNatClampNeg) 0))) (bw_hW cy b sl hn hs) := by
  obtain ⟨k, hk, rfl⟩ := vp_in_of hi (by decide)
  have ek : (nI k).toNatClampNeg = k := nI_clamp (by omega)
  refine bw_ofW (by decide +kernel) RX1 rfl (Nat.le_of_ble_eq_true rfl) ?_
  intro p e s m below meth c ls S hr hlocks hK hZ hI hl
  have hx := S.1
  have hb := S.2.1
  have hown := S.2.2.2.1
  have hts := S.2.2.2.2
  generalize va_A _ s.heap.size = A at hI hZ ⊢
  generalize hQ : MQ below _ _ s 0 0 A = Q
  have hl : lv_has ls 2 [(0, .ref (b 8 0)), (1, .int (nI k))] := hl
  refine lv_iload_n hx hb dX1_slotAt_0 rfl (lv_at hl 1 rfl) ?_
  refine lv_if_lt (tgt := 22) hx hb dX1_slotAt_1 (by decide) (fun h => absurd h (nI_pos (by omega))) (fun _ => ?_)
  refine lv_iload_n hx hb dX1_slotAt_4 rfl (lv_at hl 1 rfl) ?_
  refine lv_aload_n hx hb dX1_slotAt_5 rfl (lv_at hl 0 rfl) ?_
  refine bw_get S hK hI 0 0 rfl rfl (by decide) i_X1 f_X1_11 rfl dX1_slotAt_6 ?_
  refine va_alen hx hb hK hI.1 1 2 (v := nI 6) rfl (ty := .object "BufferLoans$Desk") rfl rfl dX1_slotAt_9 ?_
  refine lv_icmp_ge (tgt := 22) hx hb dX1_slotAt_10 (by decide) (fun h => absurd h (nI_ge hk (by decide))) (fun _ => ?_)
  refine lv_aload_n hx hb dX1_slotAt_13 rfl (lv_at hl 0 rfl) ?_
  refine bw_get S hK hI 0 0 rfl rfl (by decide) i_X1 f_X1_11 rfl dX1_slotAt_14 ?_
  refine lv_iload_n hx hb dX1_slotAt_17 rfl (lv_at hl 1 rfl) ?_
  refine va_aldq hx hb hK hI.1 1 2 rfl (C := "BufferLoans$Desk") rfl hi dX1_slotAt_18 ?_
  refine lv_goto (tgt := 23) hx hb dX1_slotAt_19 (by decide) ?_
  subst hQ
  exact W.aret hx hb hr (Or.inl ⟨_, rfl⟩) (Or.inr ⟨_, rfl⟩) (fun t ht hW => ⟨rfl, by rw [ht]; exact hI.1, hI.2.2.1.F ht⟩) hI.2.2.1.2.2 dX1_slotAt_23 hlocks
set_option maxHeartbeats 4000000 in
set_option maxRecDepth 100000 in
theorem mX1_size (l : Launch) (G : va_G) (cy : Nat → ClassId) (g : Nat) (b : Nat → Nat → Nat) (d : bw_A2) (sl : bw_A3) (hn hs : Int32) (r : Int32) (h : some hs = some r) : bw_M l yX1_size cX1_size 1 (some .int) 0 0 G cy g [.ref (b 8 0)] (bw_hD cy b d sl hn hs) (some (.int r)) (bw_hD cy b d sl hn hs) := by
  refine bw_ofW (by decide +kernel) RX1 rfl (Nat.le_of_ble_eq_true rfl) ?_
  intro p e s m below meth c ls S hr hlocks hK hZ hI hl
  have hx := S.1
  have hb := S.2.1
  have hown := S.2.2.2.1
  have hts := S.2.2.2.2
  generalize va_A _ s.heap.size = A at hI hZ ⊢
  generalize hQ : MQ below _ _ s 0 0 A = Q
  have hl : lv_has ls 1 [(0, .ref (b 8 0))] := hl
  refine lv_aload_n hx hb dX1_size_0 rfl (lv_at hl 0 rfl) ?_
  refine bw_get S hK hI 0 2 rfl rfl (by decide) i_X1 f_X1_18 rfl dX1_size_1 ?_
  exact bw_iretP S hr hlocks h hI rfl dX1_size_4 hQ
def fX1_size (hs : Int32) : Option Int32 := some hs
def fX1_keep (d : bw_A2) (sl : bw_A3) (hn hs : Int32) : Option (bw_A3 × Int32 × Int32) := if hn < 0 ∨ 6 ≤ hn.toNatClampNeg then none else some (va_up sl hn.toNatClampNeg (bw_cpD (sl hn.toNatClampNeg) d), (hn + 1) - (hn + 1) / 6 * 6, bw_min (hs + 1) 6)
def fX1_giveBack (d : bw_A2) (sl : bw_A3) (hn hs : Int32) : Option (bw_A2 × Int32 × Int32) := bw_let ((hn + 6 - 1) - (hn + 6 - 1) / 6 * 6) fun k => if k < 0 ∨ 6 ≤ k.toNatClampNeg then none else some (bw_cpD d (sl k.toNatClampNeg), k, bw_max (hs - 1) 0)
set_option maxHeartbeats 4000000 in
set_option maxRecDepth 100000 in
theorem mX1_keep (l : Launch) (G : va_G) (cy : Nat → ClassId) (g : Nat) (b : Nat → Nat → Nat) (d : bw_A2) (sl : bw_A3) (hn hs : Int32) (sl' : bw_A3) (hn' hs' : Int32) (h : fX1_keep d sl hn hs = some (sl', hn', hs')) : bw_M l yX1_keep cX1_keep 3 none 3 67 G cy g [.ref (b 8 0), .ref (b 0 0)] (bw_hD cy b d sl hn hs) none (bw_hD cy b d sl' hn' hs') := by
  unfold fX1_keep at h
  split at h
  · cases h
  rename_i hi
  obtain ⟨k, hk, rfl⟩ := vp_in_of hi (by decide)
  have ek : (nI k).toNatClampNeg = k := nI_clamp (by omega)
  rw [ek] at h
  refine bw_ofW (by decide +kernel) RX1 rfl (Nat.le_of_ble_eq_true rfl) ?_
  intro p e s m below meth c ls S hr hlocks hK hZ hI hl
  have hx := S.1
  have hb := S.2.1
  have hown := S.2.2.2.1
  have hts := S.2.2.2.2
  generalize va_A _ s.heap.size = A at hI hZ ⊢
  generalize hQ : MQ below _ _ s 0 0 A = Q
  have hl : lv_has ls 3 [(0, .ref (b 8 0)), (1, .ref (b 0 0))] := hl
  refine lv_aload_n hx hb dX1_keep_0 rfl (lv_at hl 0 rfl) ?_
  refine lv_aload_n hx hb dX1_keep_1 rfl (lv_at hl 0 rfl) ?_
  refine bw_get S hK hI 0 1 rfl rfl (by decide) i_X1 f_X1_22 rfl dX1_keep_2 ?_
  refine bw_callV S hK hZ hI (mX1_slotAt l G cy g b sl (nI k) hs (nI k) hi) Y_X1_slotAt V_X1_slotAt l_X1_25 ⟨(Nat.le_of_ble_eq_true rfl), (Nat.le_of_ble_eq_true rfl)⟩ (q0 := 0) rfl rfl rfl (ws' := bw_hD cy b d sl (nI k) hs) (List.Perm.refl _) (List.Perm.refl _) rfl rfl hl.1 (rest := []) (st1 := [.ref (b (2 + (nI k).toNatClampNeg) 0)]) rfl rfl (Nat.le_of_ble_eq_true rfl) dX1_keep_5 ⟨Nat.le_refl _, Nat.le_refl _⟩ (fun H locs hI => ?_)
  rw [ek]
  refine lv_astore_n (lv' := [(2, .ref (b (2 + k) 0)), (0, .ref (b 8 0)), (1, .ref (b 0 0))]) hx hb dX1_keep_8 rfl hl (by decide) rfl (fun ls hl => ?_)
  refine lv_aload_n hx hb dX1_keep_9 rfl (lv_at hl 0 rfl) ?_
  refine lv_ifnull hx hb dX1_keep_10 ?_
  refine lv_aload_n hx hb dX1_keep_13 rfl (lv_at hl 0 rfl) ?_
  refine lv_aload_n hx hb dX1_keep_14 rfl (lv_at hl 2 rfl) ?_
  refine bw_callV S hK hZ hI (mX0_copyFromD l G cy g (b (2 + k)) (b 0) (sl k) d) Y_X0_copyFrom V_X0_copyFrom l_X1_29 ⟨(Nat.le_of_ble_eq_true rfl), (Nat.le_of_ble_eq_true rfl)⟩ (q0 := 0) rfl rfl rfl (ws' := bw_hD cy b d (va_up sl k (bw_cpD (sl k) d)) (nI k) hs) (bw_pp (bw_ph cy b sl (nI k) hs k hk) (bw_pS _)) (bw_pp (bw_ph_up cy b sl (nI k) hs k hk _).symm (bw_pS _)).symm rfl rfl hl.1 (rest := []) (st1 := []) rfl rfl (Nat.le_of_ble_eq_true rfl) dX1_keep_15 ⟨Nat.le_refl _, Nat.le_refl _⟩ (fun H locs hI => ?_)
  refine lv_aload_n hx hb dX1_keep_18 rfl (lv_at hl 1 rfl) ?_
  refine lv_aload_n hx hb dX1_keep_19 rfl (lv_at hl 1 rfl) ?_
  refine bw_get S hK hI 0 1 rfl rfl (by decide) i_X1 f_X1_22 rfl dX1_keep_20 ?_
  refine lv_iconst (v := 1) hx hb dX1_keep_23 rfl ?_
  refine lv_iadd hx hb dX1_keep_24 ?_
  refine lv_bipush (v := 6) hx hb dX1_keep_25 (by decide) ?_
  refine lv_irem hx hb dX1_keep_27 (by decide) ?_
  refine bw_put S hK hI 0 1 (ws' := bw_hD cy b d (va_up sl k (bw_cpD (sl k) d)) ((nI k + 1) - (nI k + 1) / 6 * 6) hs) tyX1 tyX1_ok nmX1 rfl rfl (by decide) i_X1 f_X1_22 rfl rfl rfl rfl (Nat.le_of_ble_eq_true rfl) rfl dX1_keep_28 (fun H locs hI => ?_)
  refine lv_aload_n hx hb dX1_keep_31 rfl (lv_at hl 1 rfl) ?_
  refine lv_aload_n hx hb dX1_keep_32 rfl (lv_at hl 1 rfl) ?_
  refine bw_get S hK hI 0 2 rfl rfl (by decide) i_X1 f_X1_18 rfl dX1_keep_33 ?_
  refine lv_iconst (v := 1) hx hb dX1_keep_36 rfl ?_
  refine lv_iadd hx hb dX1_keep_37 ?_
  refine lv_bipush (v := 6) hx hb dX1_keep_38 (by decide) ?_
  refine bw_mmin S (rest := [.ref (b 8 0)]) hl.1 l_X1_33 l_JM_min_s l_JM_i l_JM_min_c (Nat.le_of_ble_eq_true rfl) (Nat.le_of_ble_eq_true rfl) ⟨Nat.le_refl _, Nat.le_refl _⟩ dX1_keep_40 ?_
  refine bw_put S hK hI 0 2 (ws' := bw_hD cy b d (va_up sl k (bw_cpD (sl k) d)) ((nI k + 1) - (nI k + 1) / 6 * 6) (bw_min (hs + 1) 6)) tyX1 tyX1_ok nmX1 rfl rfl (by decide) i_X1 f_X1_18 rfl rfl rfl rfl (Nat.le_of_ble_eq_true rfl) rfl dX1_keep_43 (fun H locs hI => ?_)
  exact bw_vret (d := (va_up sl k (bw_cpD (sl k) d), (nI k + 1) - (nI k + 1) / 6 * 6, bw_min (hs + 1) 6)) (rr := (sl', hn', hs')) S hr hlocks h (fun q : (bw_A3 × Int32 × Int32) => bw_hD cy b d q.1 q.2.1 q.2.2) hI dX1_keep_46 hQ
theorem bw_pq {X Y t r : va_W} (h1 : X.Perm (t ++ r)) : (X ++ (Y ++ [])).Perm ((Y ++ (t ++ [])) ++ r) := by
  rw [List.append_nil, List.append_nil]
  refine (List.Perm.append_right Y h1).trans ?_
  rw [List.append_assoc, List.append_assoc]
  refine (List.Perm.append_left t (List.perm_append_comm)).trans ?_
  exact bw_mv1 t Y r
set_option maxHeartbeats 4000000 in
set_option maxRecDepth 100000 in
theorem mX1_giveBack (l : Launch) (G : va_G) (cy : Nat → ClassId) (g : Nat) (b : Nat → Nat → Nat) (d : bw_A2) (sl : bw_A3) (hn hs : Int32) (d' : bw_A2) (hn' hs' : Int32) (h : fX1_giveBack d sl hn hs = some (d', hn', hs')) : bw_M l yX1_giveBack cX1_giveBack 3 none 3 67 G cy g [.ref (b 8 0), .ref (b 0 0)] (bw_hD cy b d sl hn hs) none (bw_hD cy b d' sl hn' hs') := by
  unfold fX1_giveBack at h
  obtain ⟨j, ej⟩ : ∃ z, z = (hn + 6 - 1) - (hn + 6 - 1) / 6 * 6 := ⟨_, rfl⟩
  have h := bw_let_e h ej
  split at h
  · cases h
  rename_i hi
  obtain ⟨k, hk, rfl⟩ := vp_in_of hi (by decide)
  have ek : (nI k).toNatClampNeg = k := nI_clamp (by omega)
  rw [ek] at h
  refine bw_ofW (by decide +kernel) RX1 rfl (Nat.le_of_ble_eq_true rfl) ?_
  intro p e s m below meth c ls S hr hlocks hK hZ hI hl
  have hx := S.1
  have hb := S.2.1
  have hown := S.2.2.2.1
  have hts := S.2.2.2.2
  generalize va_A _ s.heap.size = A at hI hZ ⊢
  generalize hQ : MQ below _ _ s 0 0 A = Q
  have hl : lv_has ls 3 [(0, .ref (b 8 0)), (1, .ref (b 0 0))] := hl
  refine lv_aload_n hx hb dX1_giveBack_0 rfl (lv_at hl 0 rfl) ?_
  refine lv_aload_n hx hb dX1_giveBack_1 rfl (lv_at hl 0 rfl) ?_
  refine bw_get S hK hI 0 1 rfl rfl (by decide) i_X1 f_X1_22 rfl dX1_giveBack_2 ?_
  refine lv_bipush (v := 6) hx hb dX1_giveBack_5 (by decide) ?_
  refine lv_iadd hx hb dX1_giveBack_7 ?_
  refine lv_iconst (v := 1) hx hb dX1_giveBack_8 rfl ?_
  refine lv_isub hx hb dX1_giveBack_9 ?_
  refine lv_bipush (v := 6) hx hb dX1_giveBack_10 (by decide) ?_
  refine lv_irem hx hb dX1_giveBack_12 (by decide) ?_
  rw [← ej]
  refine bw_put S hK hI 0 1 (ws' := bw_hD cy b d sl (nI k) hs) tyX1 tyX1_ok nmX1 rfl rfl (by decide) i_X1 f_X1_22 rfl rfl rfl rfl (Nat.le_of_ble_eq_true rfl) rfl dX1_giveBack_13 (fun H locs hI => ?_)
  refine lv_aload_n hx hb dX1_giveBack_16 rfl (lv_at hl 0 rfl) ?_
  refine lv_aload_n hx hb dX1_giveBack_17 rfl (lv_at hl 0 rfl) ?_
  refine bw_get S hK hI 0 2 rfl rfl (by decide) i_X1 f_X1_18 rfl dX1_giveBack_18 ?_
  refine lv_iconst (v := 1) hx hb dX1_giveBack_21 rfl ?_
  refine lv_isub hx hb dX1_giveBack_22 ?_
  refine lv_iconst (v := 0) hx hb dX1_giveBack_23 rfl ?_
  refine bw_mmax S (rest := [.ref (b 8 0)]) hl.1 l_X1_39 l_JM_max_s l_JM_i l_JM_max_c (Nat.le_of_ble_eq_true rfl) (Nat.le_of_ble_eq_true rfl) ⟨Nat.le_refl _, Nat.le_refl _⟩ dX1_giveBack_24 ?_
  refine bw_put S hK hI 0 2 (ws' := bw_hD cy b d sl (nI k) (bw_max (hs - 1) 0)) tyX1 tyX1_ok nmX1 rfl rfl (by decide) i_X1 f_X1_18 rfl rfl rfl rfl (Nat.le_of_ble_eq_true rfl) rfl dX1_giveBack_27 (fun H locs hI => ?_)
  refine lv_aload_n hx hb dX1_giveBack_30 rfl (lv_at hl 0 rfl) ?_
  refine lv_aload_n hx hb dX1_giveBack_31 rfl (lv_at hl 0 rfl) ?_
  refine bw_get S hK hI 0 1 rfl rfl (by decide) i_X1 f_X1_22 rfl dX1_giveBack_32 ?_
  refine bw_callV S hK hZ hI (mX1_slotAt l G cy g b sl (nI k) (bw_max (hs - 1) 0) (nI k) hi) Y_X1_slotAt V_X1_slotAt l_X1_25 ⟨(Nat.le_of_ble_eq_true rfl), (Nat.le_of_ble_eq_true rfl)⟩ (q0 := 0) rfl rfl rfl (ws' := bw_hD cy b d sl (nI k) (bw_max (hs - 1) 0)) (List.Perm.refl _) (List.Perm.refl _) rfl rfl hl.1 (rest := []) (st1 := [.ref (b (2 + (nI k).toNatClampNeg) 0)]) rfl rfl (Nat.le_of_ble_eq_true rfl) dX1_giveBack_35 ⟨Nat.le_refl _, Nat.le_refl _⟩ (fun H locs hI => ?_)
  rw [ek]
  refine lv_astore_n (lv' := [(2, .ref (b (2 + k) 0)), (0, .ref (b 8 0)), (1, .ref (b 0 0))]) hx hb dX1_giveBack_38 rfl hl (by decide) rfl (fun ls hl => ?_)
  refine lv_aload_n hx hb dX1_giveBack_39 rfl (lv_at hl 0 rfl) ?_
  refine lv_ifnull hx hb dX1_giveBack_40 ?_
  refine lv_aload_n hx hb dX1_giveBack_43 rfl (lv_at hl 2 rfl) ?_
  refine lv_aload_n hx hb dX1_giveBack_44 rfl (lv_at hl 0 rfl) ?_
  refine bw_callV S hK hZ hI (mX0_copyFromD l G cy g (b 0) (b (2 + k)) d (sl k)) Y_X0_copyFrom V_X0_copyFrom l_X1_29 ⟨(Nat.le_of_ble_eq_true rfl), (Nat.le_of_ble_eq_true rfl)⟩ (q0 := 0) rfl rfl rfl (ws' := bw_hD cy b (bw_cpD d (sl k)) sl (nI k) (bw_max (hs - 1) 0)) (bw_pq (bw_ph cy b sl (nI k) (bw_max (hs - 1) 0) k hk)) (bw_pq (bw_ph cy b sl (nI k) (bw_max (hs - 1) 0) k hk)).symm rfl rfl hl.1 (rest := []) (st1 := []) rfl rfl (Nat.le_of_ble_eq_true rfl) dX1_giveBack_45 ⟨Nat.le_refl _, Nat.le_refl _⟩ (fun H locs hI => ?_)
  exact bw_vret (d := (bw_cpD d (sl k), nI k, bw_max (hs - 1) 0)) (rr := (d', hn', hs')) S hr hlocks h (fun q : (bw_A2 × Int32 × Int32) => bw_hD cy b q.1 sl q.2.1 q.2.2) hI dX1_giveBack_48 hQ
