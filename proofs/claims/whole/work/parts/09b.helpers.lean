/-! ===== the law's helpers: a call of the class, what it throws caught (printed by helpers.py) ===== -/
def bw_oW (cy : Nat → ClassId) (o : Nat) (ou : Nat → Int64) : va_W := [(o, .inl (cy 1, 1, .inr (.inl ou)))]
abbrev bw_wsH (y : MethodName) (cc : ByteArray) (n : Nat) (r : Option FieldType) (hh : List (Nat × Nat × Nat × Nat)) : List Cond := Cond.codeWith y cc n r hh :: bw_L
/-- the contract of a method with a table of handlers that lets nothing out -/
def bw_MH (l : Launch) (y : MethodName) (cc : ByteArray) (n : Nat) (r : Option FieldType) (hh : List (Nat × Nat × Nat × Nat)) (f loc k : Nat) (G : va_G) (cy : Nat → ClassId) (g : Nat) (av : List Value) (ws : va_W) (rv : Option Value) (ws' : va_W) : Prop :=
  ∀ sz : Nat, vx_Met l y (bw_wsH y cc n r hh) (bw_rmx f loc k) (va_Pc av (bw_B G cy g ws sz)) (bw_QX G 0 rv ws' (va_A ws sz)) (bw_XX G 0 ws' (va_A ws sz)) k (6 * k) (va_A ws sz)
def bw_YH (y : MethodName) (cc : ByteArray) (n : Nat) (r : Option FieldType) (hh : List (Nat × Nat × Nat × Nat)) (k : Nat) : Prop :=
  Cond.codeWith y cc n r hh ∈ bw_L ∧ Cond.initialized y.cls ∈ bw_L ∧ Cond.static y ∈ bw_L ∧ (y.cls ≠ "java/lang/invoke/MethodHandle" ∧ y.cls ≠ "java/lang/invoke/VarHandle") ∧ (parseMethodDescriptor y.desc).map (fun d => d.parameters.length) = some k
section BWH
variable {p : Program} {l : Launch} {e : Env} {R : Room} {s : State} {m : MethodId} {args : Array Value} {below : List Frame} {meth : Method} {c : Code} {H : Heap} {locs : List Loc} {cells slots : Nat} {Q : State → Prop}
variable {cc : ByteArray} {nL pc : Nat} {ls : Array Slot} {rest : List Value} {G : va_G} {cy : Nat → ClassId} {A : Nat → Prop} {H0 : Heap} {ws : va_W} {own : String} {x0 : Cond} {a g code k : Nat}
theorem bw_callH {y : MethodName} {bytes : ByteArray} {maxL n index f loc : Nat} {ret : Option FieldType} {hh : List (Nat × Nat × Nat × Nat)} {As : List Value} {rv : Option Value} {wc rs w1 ws' : va_W} {st1 : List Value} (S : CallFix p m c cc nL s args (x0 :: bw_L) own) (hK : va_K G vwCl (bw_tys cy) s) (hZ : bw_Z g A s s.heap) (hI : bw_I G A s.heap ws H locs)
    (hM : bw_MH l y bytes maxL ret hh f loc k G cy g As wc rv w1) (hY : bw_YH y bytes maxL ret hh n) (hl : Cond.methodLink own index y ∈ bw_L) (hR : f + 1 ≤ R.frames ∧ 8 + (maxL + 11) + loc ≤ R.locals)
    (he : ws.Perm (wc ++ rs)) (he' : (w1 ++ rs).Perm ws') (hf : w1.map Prod.fst = wc.map Prod.fst) (hn : As.length = n) (hsize : ls.size = nL) {st : List Value} (hst0 : As.reverse ++ rest = st) (hst : rv.toList ++ rest = st1) (hW : (rest.map fun v => v.category).sum ≤ 8) (hdg : decode cc pc = .ok (.invokestatic index, 3)) (hcs : cells + k ≤ R.cells ∧ slots + 6 * k ≤ R.slots)
    (kk : ∀ (H1 : Heap) (locs1 : List Loc), bw_I G A s.heap ws' H1 locs1 → W p l e R s m args below meth c H1 locs1 (cells + k) (slots + 6 * k) Q (F0 m (pc + 3) ls st1)) : W p l e R s m args below meth c H locs cells slots Q (F0 m pc ls st) := by
  subst hst0
  have hts := S.2.2.2.2
  obtain ⟨y1, y2, y3, y4, y5⟩ := hY
  have hG : GoodIn (x0 :: bw_L) (va_wsS own index y (bw_wsH y bytes maxL ret hh)) := by
    intro w hw
    have key : w ∈ bw_L → w ∈ x0 :: bw_L ∧ ((w.onTables && w.keeps) = true ∨ ∃ ty, w = .arrayClass ty) := fun h => ⟨List.mem_cons_of_mem _ h, good_of_word (List.mem_filter.mp h).2⟩
    rcases List.mem_append.mp hw with h | h
    · rcases List.mem_cons.mp h with rfl | h
      · exact key hl
      · rcases List.mem_cons.mp h with rfl | h
        · exact key y3
        · rcases List.mem_cons.mp h with rfl | h
          · exact key y2
          · cases h
    · rcases List.mem_cons.mp h with rfl | h
      · exact key y1
      · exact key h
  exact bw_goX (code := 0) (vx_runSX (As := As) (rest := rest) S (hM H.size) (vx_cwSW (rm := bw_rmx f loc k) n hts hG rfl rfl rfl ⟨y4.1, y4.2, y5⟩ hR) ⟨bw_blind, bw_pre hK hZ hI he⟩ rfl hn hsize rfl (lv_room hW) hdg hcs) hI he he' hf hst (fun h => absurd rfl h) (fun _ => kk)
theorem bw_iretH {v : Int32} {σ : Type} {dd : σ} {rr : Int32 × σ} (S : CallFix p m c cc nL s args (x0 :: bw_L) own) (hr : meth.sig.returnType = some .int) (hlocks : meth.locks = false) (h : some (v, dd) = some rr) (wf : σ → va_W) (hI : bw_I G A s.heap (wf dd) H locs) (hc : cells ≤ k) (hs : slots ≤ 6 * k) (hdg : decode cc pc = .ok (.ireturn, 1))
    (hQ : vx_MQ below (bw_QX G 0 (some (.int rr.1)) (wf rr.2) A) (bw_XX G 0 (wf rr.2) A) args s k (6 * k) A = Q) : W p l e R s m args below meth c H locs cells slots Q (F0 m pc ls [.int v]) := by
  cases h
  subst hQ
  refine W.widen hc hs (vx_ret ?_)
  exact W.iret S.1 S.2.1 hr (fun t ht hW => ⟨rfl, rfl, by rw [ht]; exact hI.1, hI.2.2.1.F ht⟩) hI.2.2.1.2.2 hdg hlocks
theorem bw_last (hx : p.tables.exec = Jvm.exec) (hb : c.code = cc) (hK : va_K G vwCl (bw_tys cy) s) (hI : bw_I G A H0 ws H locs) (q0 : Nat) {n : Nat} {f : Nat → Int64} {x : Int64} {ws' : va_W} (hn : 0 < n) (he : ws[q0]? = some (a, .inl (cy 1, n, .inr (.inl f)))) (hw : ws.set q0 (a, .inl (cy 1, n, .inr (.inl (vp_updL f 0 x)))) = ws') (hdg : decode cc pc = .ok (.lastore, 1))
    (kk : ∀ (H1 : Heap) (locs1 : List Loc), bw_I G A H0 ws' H1 locs1 → W p l e R s m args below meth c H1 locs1 cells slots Q (F0 m (pc + 1) ls rest)) : W p l e R s m args below meth c H locs cells slots Q (F0 m pc ls (.long x :: .int 0 :: .ref a :: rest)) := by
  subst hw
  have e0 : (0 : Int32).toNatClampNeg = 0 := sb_cl0
  have hin : vp_in 0 n := by
    unfold vp_in
    rw [e0]
    rintro (h | h)
    · exact absurd h (by decide)
    · omega
  refine va_last hx hb hK hI.1 hI.2.1 hI.2.2.1 q0 1 he rfl hin hdg ?_
  rw [e0]
  exact fun H1 locs1 q1 q2 q3 => kk H1 locs1 ⟨q1, q2, q3, hI.2.2.2⟩
theorem bw_lald (hx : p.tables.exec = Jvm.exec) (hb : c.code = cc) (hK : va_K G vwCl (bw_tys cy) s) (hI : bw_I G A H0 ws H locs) (q0 : Nat) {n : Nat} {f : Nat → Int64} (hn : 0 < n) (he : ws[q0]? = some (a, .inl (cy 1, n, .inr (.inl f)))) (hdg : decode cc pc = .ok (.laload, 1))
    (kk : W p l e R s m args below meth c H locs cells slots Q (F0 m (pc + 1) ls (.long (f 0) :: rest))) : W p l e R s m args below meth c H locs cells slots Q (F0 m pc ls (.int 0 :: .ref a :: rest)) := by
  have e0 : (0 : Int32).toNatClampNeg = 0 := sb_cl0
  have hin : vp_in 0 n := by
    unfold vp_in
    rw [e0]
    rintro (h | h)
    · exact absurd h (by decide)
    · omega
  refine va_lald hx hb hK hI.1 q0 1 he rfl hin hdg ?_
  rw [e0]
  exact kk
/-- a handler of the table takes what was thrown -/
theorem bw_catch {E : Nat} {ce : Cell} {q : Addr} (S : CallFix p m c cc nL s args (x0 :: bw_L) own) (hZ : bw_Z g A s s.heap) {hh : List (Nat × Nat × Nat × Nat)} (ht : c.exceptionTable.toList = tableOf hh) (pre : List (Nat × Nat × Nat × Nat)) (x : Nat × Nat × Nat × Nat) (suf : List (Nat × Nat × Nat × Nat)) (hsplit : hh = pre ++ x :: suf) (hE : 1 ≤ E ∧ E ≤ 3)
    (hpass : ∀ z ∈ pre, z.2.2.2 ≠ 0 ∧ ∃ j, 1 ≤ j ∧ j ≤ 3 ∧ E ≠ j ∧ Cond.classLink own z.2.2.2 (bw_exn j) ∈ bw_L) (hcov : covers ⟨x.1, x.2.1, x.2.2.1, x.2.2.2⟩ pc = true) (h0 : x.2.2.2 ≠ 0) (hlink : Cond.classLink own x.2.2.2 (bw_exn E) ∈ bw_L) (hcell : H[q]? = some ce) (hv : ce.vm = .none) (hcl : s.vm.findClass (bw_exn E) = some ce.cls)
    (kk : W p l e R s m args below meth c H locs cells slots Q (F0 m x.2.2.1 ls [.ref q])) : vx_W p l e R s m args below meth c H locs cells slots Q (F0 m pc ls rest) q := by
  obtain ⟨hx, hb, hml, hown, hts⟩ := S
  refine vx_catch (E := bw_exn E) hown (tableOf pre) ⟨x.1, x.2.1, x.2.2.1, x.2.2.2⟩ (tableOf suf) ?_ ?_ hcov h0 (hts _ (List.mem_cons_of_mem _ hlink)) (va_Nw.use (A := args) rfl (hZ.2.2.2.2.1 E hE.1 hE.2)) hcell hv hcl kk
  · rw [ht, hsplit]
    unfold tableOf
    rw [List.map_append, List.map_cons]
  · intro z hz
    obtain ⟨w, hw, rfl⟩ := List.mem_map.mp hz
    obtain ⟨h1, j, j1, j2, j3, j4⟩ := hpass w hw
    exact Or.inr ⟨h1, bw_exn j, hts _ (List.mem_cons_of_mem _ j4), hZ.2.2.2.2.2.1 E j hE.1 hE.2 j1 j2 j3⟩
end BWH
theorem bw_ofWH {l : Launch} {y : MethodName} {cc : ByteArray} {n : Nat} {r : Option FieldType} {hh : List (Nat × Nat × Nat × Nat)} {f loc k : Nat} {G : va_G} {cy : Nat → ClassId} {g : Nat} {av : List Value} {ws : va_W} {rv : Option Value} {ws' : va_W} (hy : plainName y.cls = true) (own : String) (ho : y.cls = own) (hlen : (lg_sl av).length ≤ n)
    (body : ∀ (p : Program) (e : Env) (s : State) (m : MethodId) (below : List Frame) (meth : Method) (c : Code) (ls : Array Slot), CallFix p m c cc n s av.toArray (Cond.codeWith y cc n r hh :: bw_L) own → meth.sig.returnType = r → meth.locks = false → c.exceptionTable.toList = tableOf hh → va_K G vwCl (bw_tys cy) s → bw_Z g (va_A ws s.heap.size) s s.heap → bw_I G (va_A ws s.heap.size) s.heap ws s.heap [] → lv_has ls n (lv_args 0 av) →
      W p l e (bw_rmx f loc k) s m av.toArray below meth c s.heap [] 0 0 (vx_MQ below (bw_QX G 0 rv ws' (va_A ws s.heap.size)) (bw_XX G 0 ws' (va_A ws s.heap.size)) av.toArray s k (6 * k) (va_A ws s.heap.size)) (F0 m 0 ls [])) : bw_MH l y cc n r hh f loc k G cy g av ws rv ws' := by
  intro sz
  refine vx_ofWH (cc := cc) (maxL := n) (ret := r) (hh := hh) hy rfl ?_
  intro p e s m args below meth c s₁ B hml hv
  obtain ⟨rfl, hsz, hP, hK, hD0, hZ⟩ := hv
  have hts := atoms_spec (ws := bw_wsH y cc n r hh) B.pre
  have hown : s.vm.findClass own = some m.cls := by rw [← ho]; exact findClass_of_methodNamed B.named
  subst hsz
  rw [lg_entry_eq]
  exact body p e s m below meth c _ ⟨B.exec, B.bytes, hml, hown, hts⟩ B.returns B.notSynchronized (vx_table (x := y) B (hts _ List.mem_cons_self)) hK hZ ⟨hP, hD0.self, va_S.rf, fun q h => Or.inr h⟩ (lv_entry av hlen)
set_option maxRecDepth 100000 in
theorem cl_20 : Cond.classLink RL 20 (bw_exn 1) ∈ bw_L := bw_memT 520 rfl rfl
set_option maxRecDepth 100000 in
theorem cl_13 : Cond.classLink RL 13 (bw_exn 2) ∈ bw_L := bw_memT 410 rfl rfl
set_option maxRecDepth 100000 in
theorem cl_15 : Cond.classLink RL 15 (bw_exn 3) ∈ bw_L := bw_memT 411 rfl rfl
set_option maxRecDepth 100000 in
theorem l_L_7 : (Jvm.Cond.methodLink "BufferLoansLaw" (7 : Nat) ({ cls := "BufferLoans", name := "open", desc := "(II)I" } : Jvm.MethodName)) ∈ bw_L := bw_memT 412 rfl rfl
def fL_open (d : bw_A2) (sl : bw_A3) (hn : Int32) (hs : Int32) (p1 : Int32) (p2 : Int32) (ou : Nat → Int64) : Option (Int32 × bw_A2 × bw_A3 × Int32 × Int32 × (Nat → Int64)) :=
  bw_b6 (fX5_open d sl hn hs p1 p2) fun ec r d1 sl1 hn1 hs1 =>
  if ec = 0 then
    some (0, d1, sl1, hn1, hs1, vp_updL ou 0 (Int32.toInt64 r))
  else if ec = 2 then
    some (1, d1, sl1, hn1, hs1, ou)
  else if ec = 3 then
    some (2, d1, sl1, hn1, hs1, ou)
  else none
set_option maxHeartbeats 4000000 in
set_option maxRecDepth 100000 in
theorem mL_open (l : Launch) (hfl : l.stackTraces = false) (G : va_G) (cy : Nat → ClassId) (g : Nat) (b : Nat → Nat → Nat) (o : Nat) (d : bw_A2) (t : bw_A2) (sl : bw_A3) (hn : Int32) (hs : Int32) (cs : bw_A1) (ln : Int32) (rp : Int32) (rn : Int32) (rt : Int32) (p1 : Int32) (p2 : Int32) (ou : Nat → Int64) (rk : Int32) (d' : bw_A2) (sl' : bw_A3) (hn' : Int32) (hs' : Int32) (ou' : (Nat → Int64)) (h : fL_open d sl hn hs p1 p2 ou = some (rk, d', sl', hn', hs', ou')) : bw_MH l yL_open cL_open 5 (some .int) [(0, 10, 13, 13), (0, 10, 17, 15)] 7 111 1 G cy g [.ref (b 8 5), .int p1, .int p2, .ref o] ((bw_xW cy b d t sl hn hs cs ln rp rn rt) ++ (bw_oW cy o ou ++ [])) (some (.int rk)) ((bw_xW cy b d' t sl' hn' hs' cs ln rp rn rt) ++ (bw_oW cy o ou' ++ [])) := by
  refine bw_ofWH (by decide +kernel) RL rfl (Nat.le_of_ble_eq_true rfl) ?_
  intro p e s m below meth c ls S hr hlocks ht hK hZ hI hl
  have hx := S.1
  have hb := S.2.1
  generalize va_A _ s.heap.size = A at hI hZ ⊢
  generalize hQ : vx_MQ below _ _ _ s 1 (6 * 1) A = Q
  have hl : lv_has ls 5 [(0, .ref (b 8 5)), (1, .int p1), (2, .int p2), (3, .ref o)] := hl
  unfold fL_open at h
  refine lv_aload_n hx hb dL_open_0 rfl (lv_at hl 3 rfl) ?_
  refine lv_iconst (v := 0) hx hb dL_open_1 rfl ?_
  refine lv_aload_n hx hb dL_open_2 rfl (lv_at hl 0 rfl) ?_
  refine lv_iload_n hx hb dL_open_3 rfl (lv_at hl 1 rfl) ?_
  refine lv_iload_n hx hb dL_open_4 rfl (lv_at hl 2 rfl) ?_
  obtain ⟨ec, r, d1, sl1, hn1, hs1, hc, h⟩ := bw_b6_e h
  refine bw_callVX S hK hZ hI (mX5_open l hfl G cy g b d t sl hn hs cs ln rp rn rt p1 p2 ec r d1 sl1 hn1 hs1 hc) Y_X5_open V_X5_open l_L_7 ⟨(Nat.le_of_ble_eq_true rfl), (Nat.le_of_ble_eq_true rfl)⟩ (q0 := 0) rfl rfl rfl (ws' := ((bw_xW cy b d1 t sl1 hn1 hs1 cs ln rp rn rt) ++ (bw_oW cy o ou ++ []))) (List.Perm.refl _) (List.Perm.refl _) rfl rfl hl.1 (rest := [.int 0, .ref o]) (st1 := [.int r, .int 0, .ref o]) rfl rfl (Nat.le_of_ble_eq_true rfl) dL_open_5 ⟨(Nat.le_of_ble_eq_true rfl), (Nat.le_of_ble_eq_true rfl)⟩ (fun h0 q ce H locs hI h1 h2 h3 => ?_) (fun h0 H locs hI => ?_)
  · rw [if_neg h0] at h
    by_cases c0 : ec = 2
    · subst c0
      rw [if_pos rfl] at h
      refine bw_catch (E := 2) S hZ ht [] (0, 10, 13, 13) [(0, 10, 17, 15)] rfl (by decide) (fun z hz => absurd hz List.not_mem_nil) (by decide) (by decide) cl_13 h1 h2 h3 ?_
      refine lv_astore (lv' := [(4, .ref q), (0, .ref (b 8 5)), (1, .int p1), (2, .int p2), (3, .ref o)]) hx hb dL_open_13 hl (by decide) rfl (fun ls hl => ?_)
      refine lv_iconst (v := 1) hx hb dL_open_15 rfl ?_
      exact bw_iretH (dd := (d1, sl1, hn1, hs1, ou)) (rr := (rk, d', sl', hn', hs', ou')) S hr hlocks h (fun q : bw_A2 × bw_A3 × Int32 × Int32 × (Nat → Int64) => ((bw_xW cy b q.1 t q.2.1 q.2.2.1 q.2.2.2.1 cs ln rp rn rt) ++ (bw_oW cy o q.2.2.2.2 ++ []))) hI (Nat.le_of_ble_eq_true rfl) (Nat.le_of_ble_eq_true rfl) dL_open_16 hQ
    rw [if_neg c0] at h
    by_cases c1 : ec = 3
    · subst c1
      rw [if_pos rfl] at h
      refine bw_catch (E := 3) S hZ ht [(0, 10, 13, 13)] (0, 10, 17, 15) [] rfl (by decide) (List.forall_mem_cons.mpr ⟨⟨by decide, 2, by decide, by decide, by decide, cl_13⟩, fun z hz => absurd hz List.not_mem_nil⟩) (by decide) (by decide) cl_15 h1 h2 h3 ?_
      refine lv_astore (lv' := [(4, .ref q), (0, .ref (b 8 5)), (1, .int p1), (2, .int p2), (3, .ref o)]) hx hb dL_open_17 hl (by decide) rfl (fun ls hl => ?_)
      refine lv_iconst (v := 2) hx hb dL_open_19 rfl ?_
      exact bw_iretH (dd := (d1, sl1, hn1, hs1, ou)) (rr := (rk, d', sl', hn', hs', ou')) S hr hlocks h (fun q : bw_A2 × bw_A3 × Int32 × Int32 × (Nat → Int64) => ((bw_xW cy b q.1 t q.2.1 q.2.2.1 q.2.2.2.1 cs ln rp rn rt) ++ (bw_oW cy o q.2.2.2.2 ++ []))) hI (Nat.le_of_ble_eq_true rfl) (Nat.le_of_ble_eq_true rfl) dL_open_20 hQ
    rw [if_neg c1] at h
    exact bw_none h
  rw [if_pos h0] at h
  refine lv_i2l hx hb dL_open_8 rfl ?_
  refine bw_last hx hb hK hI 94 (ws' := ((bw_xW cy b d1 t sl1 hn1 hs1 cs ln rp rn rt) ++ (bw_oW cy o (vp_updL ou 0 (Int32.toInt64 r)) ++ []))) (by decide) rfl rfl dL_open_9 (fun H locs hI => ?_)
  refine lv_goto (tgt := 21) hx hb dL_open_10 (by decide) ?_
  refine lv_iconst (v := 0) hx hb dL_open_21 rfl ?_
  exact bw_iretH (dd := (d1, sl1, hn1, hs1, vp_updL ou 0 (Int32.toInt64 r))) (rr := (rk, d', sl', hn', hs', ou')) S hr hlocks h (fun q : bw_A2 × bw_A3 × Int32 × Int32 × (Nat → Int64) => ((bw_xW cy b q.1 t q.2.1 q.2.2.1 q.2.2.2.1 cs ln rp rn rt) ++ (bw_oW cy o q.2.2.2.2 ++ []))) hI (Nat.le_of_ble_eq_true rfl) (Nat.le_of_ble_eq_true rfl) dL_open_22 hQ
set_option maxRecDepth 100000 in
theorem Y_L_open : bw_YH yL_open cL_open 5 (some .int) [(0, 10, 13, 13), (0, 10, 17, 15)] 4 := ⟨bw_memT 409 rfl rfl, bw_memT 0 rfl rfl, bw_memT 408 rfl rfl, ⟨by decide +kernel, by decide +kernel⟩, by decide +kernel⟩
set_option maxRecDepth 100000 in
theorem l_L_17 : (Jvm.Cond.methodLink "BufferLoansLaw" (17 : Nat) ({ cls := "BufferLoans", name := "plan", desc := "(II)I" } : Jvm.MethodName)) ∈ bw_L := bw_memT 521 rfl rfl
def fL_plan (d : bw_A2) (sl : bw_A3) (hn : Int32) (hs : Int32) (p1 : Int32) (p2 : Int32) (ou : Nat → Int64) : Option (Int32 × bw_A2 × bw_A3 × Int32 × Int32 × (Nat → Int64)) :=
  bw_b6 (fX5_plan d sl hn hs p1 p2) fun ec r d1 sl1 hn1 hs1 =>
  if ec = 0 then
    some (0, d1, sl1, hn1, hs1, vp_updL ou 0 (Int32.toInt64 r))
  else if ec = 1 then
    some (1, d1, sl1, hn1, hs1, ou)
  else if ec = 2 then
    some (2, d1, sl1, hn1, hs1, ou)
  else if ec = 3 then
    some (3, d1, sl1, hn1, hs1, ou)
  else none
set_option maxHeartbeats 4000000 in
set_option maxRecDepth 100000 in
theorem mL_plan (l : Launch) (hfl : l.stackTraces = false) (G : va_G) (cy : Nat → ClassId) (g : Nat) (b : Nat → Nat → Nat) (o : Nat) (d : bw_A2) (t : bw_A2) (sl : bw_A3) (hn : Int32) (hs : Int32) (cs : bw_A1) (ln : Int32) (rp : Int32) (rn : Int32) (rt : Int32) (p1 : Int32) (p2 : Int32) (ou : Nat → Int64) (rk : Int32) (d' : bw_A2) (sl' : bw_A3) (hn' : Int32) (hs' : Int32) (ou' : (Nat → Int64)) (h : fL_plan d sl hn hs p1 p2 ou = some (rk, d', sl', hn', hs', ou')) : bw_MH l yL_plan cL_plan 5 (some .int) [(0, 10, 13, 20), (0, 10, 17, 13), (0, 10, 21, 15)] 8 125 2 G cy g [.ref (b 8 5), .int p1, .int p2, .ref o] ((bw_xW cy b d t sl hn hs cs ln rp rn rt) ++ (bw_oW cy o ou ++ [])) (some (.int rk)) ((bw_xW cy b d' t sl' hn' hs' cs ln rp rn rt) ++ (bw_oW cy o ou' ++ [])) := by
  refine bw_ofWH (by decide +kernel) RL rfl (Nat.le_of_ble_eq_true rfl) ?_
  intro p e s m below meth c ls S hr hlocks ht hK hZ hI hl
  have hx := S.1
  have hb := S.2.1
  generalize va_A _ s.heap.size = A at hI hZ ⊢
  generalize hQ : vx_MQ below _ _ _ s 2 (6 * 2) A = Q
  have hl : lv_has ls 5 [(0, .ref (b 8 5)), (1, .int p1), (2, .int p2), (3, .ref o)] := hl
  unfold fL_plan at h
  refine lv_aload_n hx hb dL_plan_0 rfl (lv_at hl 3 rfl) ?_
  refine lv_iconst (v := 0) hx hb dL_plan_1 rfl ?_
  refine lv_aload_n hx hb dL_plan_2 rfl (lv_at hl 0 rfl) ?_
  refine lv_iload_n hx hb dL_plan_3 rfl (lv_at hl 1 rfl) ?_
  refine lv_iload_n hx hb dL_plan_4 rfl (lv_at hl 2 rfl) ?_
  obtain ⟨ec, r, d1, sl1, hn1, hs1, hc, h⟩ := bw_b6_e h
  refine bw_callVX S hK hZ hI (mX5_plan l hfl G cy g b d t sl hn hs cs ln rp rn rt p1 p2 ec r d1 sl1 hn1 hs1 hc) Y_X5_plan V_X5_plan l_L_17 ⟨(Nat.le_of_ble_eq_true rfl), (Nat.le_of_ble_eq_true rfl)⟩ (q0 := 0) rfl rfl rfl (ws' := ((bw_xW cy b d1 t sl1 hn1 hs1 cs ln rp rn rt) ++ (bw_oW cy o ou ++ []))) (List.Perm.refl _) (List.Perm.refl _) rfl rfl hl.1 (rest := [.int 0, .ref o]) (st1 := [.int r, .int 0, .ref o]) rfl rfl (Nat.le_of_ble_eq_true rfl) dL_plan_5 ⟨(Nat.le_of_ble_eq_true rfl), (Nat.le_of_ble_eq_true rfl)⟩ (fun h0 q ce H locs hI h1 h2 h3 => ?_) (fun h0 H locs hI => ?_)
  · rw [if_neg h0] at h
    by_cases c0 : ec = 1
    · subst c0
      rw [if_pos rfl] at h
      refine bw_catch (E := 1) S hZ ht [] (0, 10, 13, 20) [(0, 10, 17, 13), (0, 10, 21, 15)] rfl (by decide) (fun z hz => absurd hz List.not_mem_nil) (by decide) (by decide) cl_20 h1 h2 h3 ?_
      refine lv_astore (lv' := [(4, .ref q), (0, .ref (b 8 5)), (1, .int p1), (2, .int p2), (3, .ref o)]) hx hb dL_plan_13 hl (by decide) rfl (fun ls hl => ?_)
      refine lv_iconst (v := 1) hx hb dL_plan_15 rfl ?_
      exact bw_iretH (dd := (d1, sl1, hn1, hs1, ou)) (rr := (rk, d', sl', hn', hs', ou')) S hr hlocks h (fun q : bw_A2 × bw_A3 × Int32 × Int32 × (Nat → Int64) => ((bw_xW cy b q.1 t q.2.1 q.2.2.1 q.2.2.2.1 cs ln rp rn rt) ++ (bw_oW cy o q.2.2.2.2 ++ []))) hI (Nat.le_of_ble_eq_true rfl) (Nat.le_of_ble_eq_true rfl) dL_plan_16 hQ
    rw [if_neg c0] at h
    by_cases c1 : ec = 2
    · subst c1
      rw [if_pos rfl] at h
      refine bw_catch (E := 2) S hZ ht [(0, 10, 13, 20)] (0, 10, 17, 13) [(0, 10, 21, 15)] rfl (by decide) (List.forall_mem_cons.mpr ⟨⟨by decide, 1, by decide, by decide, by decide, cl_20⟩, fun z hz => absurd hz List.not_mem_nil⟩) (by decide) (by decide) cl_13 h1 h2 h3 ?_
      refine lv_astore (lv' := [(4, .ref q), (0, .ref (b 8 5)), (1, .int p1), (2, .int p2), (3, .ref o)]) hx hb dL_plan_17 hl (by decide) rfl (fun ls hl => ?_)
      refine lv_iconst (v := 2) hx hb dL_plan_19 rfl ?_
      exact bw_iretH (dd := (d1, sl1, hn1, hs1, ou)) (rr := (rk, d', sl', hn', hs', ou')) S hr hlocks h (fun q : bw_A2 × bw_A3 × Int32 × Int32 × (Nat → Int64) => ((bw_xW cy b q.1 t q.2.1 q.2.2.1 q.2.2.2.1 cs ln rp rn rt) ++ (bw_oW cy o q.2.2.2.2 ++ []))) hI (Nat.le_of_ble_eq_true rfl) (Nat.le_of_ble_eq_true rfl) dL_plan_20 hQ
    rw [if_neg c1] at h
    by_cases c2 : ec = 3
    · subst c2
      rw [if_pos rfl] at h
      refine bw_catch (E := 3) S hZ ht [(0, 10, 13, 20), (0, 10, 17, 13)] (0, 10, 21, 15) [] rfl (by decide) (List.forall_mem_cons.mpr ⟨⟨by decide, 1, by decide, by decide, by decide, cl_20⟩, List.forall_mem_cons.mpr ⟨⟨by decide, 2, by decide, by decide, by decide, cl_13⟩, fun z hz => absurd hz List.not_mem_nil⟩⟩) (by decide) (by decide) cl_15 h1 h2 h3 ?_
      refine lv_astore (lv' := [(4, .ref q), (0, .ref (b 8 5)), (1, .int p1), (2, .int p2), (3, .ref o)]) hx hb dL_plan_21 hl (by decide) rfl (fun ls hl => ?_)
      refine lv_iconst (v := 3) hx hb dL_plan_23 rfl ?_
      exact bw_iretH (dd := (d1, sl1, hn1, hs1, ou)) (rr := (rk, d', sl', hn', hs', ou')) S hr hlocks h (fun q : bw_A2 × bw_A3 × Int32 × Int32 × (Nat → Int64) => ((bw_xW cy b q.1 t q.2.1 q.2.2.1 q.2.2.2.1 cs ln rp rn rt) ++ (bw_oW cy o q.2.2.2.2 ++ []))) hI (Nat.le_of_ble_eq_true rfl) (Nat.le_of_ble_eq_true rfl) dL_plan_24 hQ
    rw [if_neg c2] at h
    exact bw_none h
  rw [if_pos h0] at h
  refine lv_i2l hx hb dL_plan_8 rfl ?_
  refine bw_last hx hb hK hI 94 (ws' := ((bw_xW cy b d1 t sl1 hn1 hs1 cs ln rp rn rt) ++ (bw_oW cy o (vp_updL ou 0 (Int32.toInt64 r)) ++ []))) (by decide) rfl rfl dL_plan_9 (fun H locs hI => ?_)
  refine lv_goto (tgt := 25) hx hb dL_plan_10 (by decide) ?_
  refine lv_iconst (v := 0) hx hb dL_plan_25 rfl ?_
  exact bw_iretH (dd := (d1, sl1, hn1, hs1, vp_updL ou 0 (Int32.toInt64 r))) (rr := (rk, d', sl', hn', hs', ou')) S hr hlocks h (fun q : bw_A2 × bw_A3 × Int32 × Int32 × (Nat → Int64) => ((bw_xW cy b q.1 t q.2.1 q.2.2.1 q.2.2.2.1 cs ln rp rn rt) ++ (bw_oW cy o q.2.2.2.2 ++ []))) hI (Nat.le_of_ble_eq_true rfl) (Nat.le_of_ble_eq_true rfl) dL_plan_26 hQ
set_option maxRecDepth 100000 in
theorem Y_L_plan : bw_YH yL_plan cL_plan 5 (some .int) [(0, 10, 13, 20), (0, 10, 17, 13), (0, 10, 21, 15)] 4 := ⟨bw_memT 519 rfl rfl, bw_memT 0 rfl rfl, bw_memT 518 rfl rfl, ⟨by decide +kernel, by decide +kernel⟩, by decide +kernel⟩
set_option maxRecDepth 100000 in
theorem l_L_22 : (Jvm.Cond.methodLink "BufferLoansLaw" (22 : Nat) ({ cls := "BufferLoans", name := "rank", desc := "(II)I" } : Jvm.MethodName)) ∈ bw_L := bw_memT 555 rfl rfl
def fL_rank (d : bw_A2) (sl : bw_A3) (hn : Int32) (hs : Int32) (p1 : Int32) (p2 : Int32) (ou : Nat → Int64) : Option (Int32 × bw_A2 × bw_A3 × Int32 × Int32 × (Nat → Int64)) :=
  bw_b6 (fX5_rank d sl hn hs p1 p2) fun ec r d1 sl1 hn1 hs1 =>
  if ec = 0 then
    some (0, d1, sl1, hn1, hs1, vp_updL ou 0 (Int32.toInt64 r))
  else if ec = 1 then
    some (1, d1, sl1, hn1, hs1, ou)
  else if ec = 2 then
    some (2, d1, sl1, hn1, hs1, ou)
  else none
set_option maxHeartbeats 4000000 in
set_option maxRecDepth 100000 in
theorem mL_rank (l : Launch) (hfl : l.stackTraces = false) (G : va_G) (cy : Nat → ClassId) (g : Nat) (b : Nat → Nat → Nat) (o : Nat) (d : bw_A2) (t : bw_A2) (sl : bw_A3) (hn : Int32) (hs : Int32) (cs : bw_A1) (ln : Int32) (rp : Int32) (rn : Int32) (rt : Int32) (p1 : Int32) (p2 : Int32) (ou : Nat → Int64) (rk : Int32) (d' : bw_A2) (sl' : bw_A3) (hn' : Int32) (hs' : Int32) (ou' : (Nat → Int64)) (h : fL_rank d sl hn hs p1 p2 ou = some (rk, d', sl', hn', hs', ou')) : bw_MH l yL_rank cL_rank 5 (some .int) [(0, 10, 13, 20), (0, 10, 17, 13)] 8 125 2 G cy g [.ref (b 8 5), .int p1, .int p2, .ref o] ((bw_xW cy b d t sl hn hs cs ln rp rn rt) ++ (bw_oW cy o ou ++ [])) (some (.int rk)) ((bw_xW cy b d' t sl' hn' hs' cs ln rp rn rt) ++ (bw_oW cy o ou' ++ [])) := by
  refine bw_ofWH (by decide +kernel) RL rfl (Nat.le_of_ble_eq_true rfl) ?_
  intro p e s m below meth c ls S hr hlocks ht hK hZ hI hl
  have hx := S.1
  have hb := S.2.1
  generalize va_A _ s.heap.size = A at hI hZ ⊢
  generalize hQ : vx_MQ below _ _ _ s 2 (6 * 2) A = Q
  have hl : lv_has ls 5 [(0, .ref (b 8 5)), (1, .int p1), (2, .int p2), (3, .ref o)] := hl
  unfold fL_rank at h
  refine lv_aload_n hx hb dL_rank_0 rfl (lv_at hl 3 rfl) ?_
  refine lv_iconst (v := 0) hx hb dL_rank_1 rfl ?_
  refine lv_aload_n hx hb dL_rank_2 rfl (lv_at hl 0 rfl) ?_
  refine lv_iload_n hx hb dL_rank_3 rfl (lv_at hl 1 rfl) ?_
  refine lv_iload_n hx hb dL_rank_4 rfl (lv_at hl 2 rfl) ?_
  obtain ⟨ec, r, d1, sl1, hn1, hs1, hc, h⟩ := bw_b6_e h
  refine bw_callVX S hK hZ hI (mX5_rank l hfl G cy g b d t sl hn hs cs ln rp rn rt p1 p2 ec r d1 sl1 hn1 hs1 hc) Y_X5_rank V_X5_rank l_L_22 ⟨(Nat.le_of_ble_eq_true rfl), (Nat.le_of_ble_eq_true rfl)⟩ (q0 := 0) rfl rfl rfl (ws' := ((bw_xW cy b d1 t sl1 hn1 hs1 cs ln rp rn rt) ++ (bw_oW cy o ou ++ []))) (List.Perm.refl _) (List.Perm.refl _) rfl rfl hl.1 (rest := [.int 0, .ref o]) (st1 := [.int r, .int 0, .ref o]) rfl rfl (Nat.le_of_ble_eq_true rfl) dL_rank_5 ⟨(Nat.le_of_ble_eq_true rfl), (Nat.le_of_ble_eq_true rfl)⟩ (fun h0 q ce H locs hI h1 h2 h3 => ?_) (fun h0 H locs hI => ?_)
  · rw [if_neg h0] at h
    by_cases c0 : ec = 1
    · subst c0
      rw [if_pos rfl] at h
      refine bw_catch (E := 1) S hZ ht [] (0, 10, 13, 20) [(0, 10, 17, 13)] rfl (by decide) (fun z hz => absurd hz List.not_mem_nil) (by decide) (by decide) cl_20 h1 h2 h3 ?_
      refine lv_astore (lv' := [(4, .ref q), (0, .ref (b 8 5)), (1, .int p1), (2, .int p2), (3, .ref o)]) hx hb dL_rank_13 hl (by decide) rfl (fun ls hl => ?_)
      refine lv_iconst (v := 1) hx hb dL_rank_15 rfl ?_
      exact bw_iretH (dd := (d1, sl1, hn1, hs1, ou)) (rr := (rk, d', sl', hn', hs', ou')) S hr hlocks h (fun q : bw_A2 × bw_A3 × Int32 × Int32 × (Nat → Int64) => ((bw_xW cy b q.1 t q.2.1 q.2.2.1 q.2.2.2.1 cs ln rp rn rt) ++ (bw_oW cy o q.2.2.2.2 ++ []))) hI (Nat.le_of_ble_eq_true rfl) (Nat.le_of_ble_eq_true rfl) dL_rank_16 hQ
    rw [if_neg c0] at h
    by_cases c1 : ec = 2
    · subst c1
      rw [if_pos rfl] at h
      refine bw_catch (E := 2) S hZ ht [(0, 10, 13, 20)] (0, 10, 17, 13) [] rfl (by decide) (List.forall_mem_cons.mpr ⟨⟨by decide, 1, by decide, by decide, by decide, cl_20⟩, fun z hz => absurd hz List.not_mem_nil⟩) (by decide) (by decide) cl_13 h1 h2 h3 ?_
      refine lv_astore (lv' := [(4, .ref q), (0, .ref (b 8 5)), (1, .int p1), (2, .int p2), (3, .ref o)]) hx hb dL_rank_17 hl (by decide) rfl (fun ls hl => ?_)
      refine lv_iconst (v := 2) hx hb dL_rank_19 rfl ?_
      exact bw_iretH (dd := (d1, sl1, hn1, hs1, ou)) (rr := (rk, d', sl', hn', hs', ou')) S hr hlocks h (fun q : bw_A2 × bw_A3 × Int32 × Int32 × (Nat → Int64) => ((bw_xW cy b q.1 t q.2.1 q.2.2.1 q.2.2.2.1 cs ln rp rn rt) ++ (bw_oW cy o q.2.2.2.2 ++ []))) hI (Nat.le_of_ble_eq_true rfl) (Nat.le_of_ble_eq_true rfl) dL_rank_20 hQ
    rw [if_neg c1] at h
    exact bw_none h
  rw [if_pos h0] at h
  refine lv_i2l hx hb dL_rank_8 rfl ?_
  refine bw_last hx hb hK hI 94 (ws' := ((bw_xW cy b d1 t sl1 hn1 hs1 cs ln rp rn rt) ++ (bw_oW cy o (vp_updL ou 0 (Int32.toInt64 r)) ++ []))) (by decide) rfl rfl dL_rank_9 (fun H locs hI => ?_)
  refine lv_goto (tgt := 21) hx hb dL_rank_10 (by decide) ?_
  refine lv_iconst (v := 0) hx hb dL_rank_21 rfl ?_
  exact bw_iretH (dd := (d1, sl1, hn1, hs1, vp_updL ou 0 (Int32.toInt64 r))) (rr := (rk, d', sl', hn', hs', ou')) S hr hlocks h (fun q : bw_A2 × bw_A3 × Int32 × Int32 × (Nat → Int64) => ((bw_xW cy b q.1 t q.2.1 q.2.2.1 q.2.2.2.1 cs ln rp rn rt) ++ (bw_oW cy o q.2.2.2.2 ++ []))) hI (Nat.le_of_ble_eq_true rfl) (Nat.le_of_ble_eq_true rfl) dL_rank_22 hQ
set_option maxRecDepth 100000 in
theorem Y_L_rank : bw_YH yL_rank cL_rank 5 (some .int) [(0, 10, 13, 20), (0, 10, 17, 13)] 4 := ⟨bw_memT 554 rfl rfl, bw_memT 0 rfl rfl, bw_memT 553 rfl rfl, ⟨by decide +kernel, by decide +kernel⟩, by decide +kernel⟩
set_option maxRecDepth 100000 in
theorem l_L_25 : (Jvm.Cond.methodLink "BufferLoansLaw" (25 : Nat) ({ cls := "BufferLoans", name := "set", desc := "(II)I" } : Jvm.MethodName)) ∈ bw_L := bw_memT 567 rfl rfl
def fL_set (d : bw_A2) (sl : bw_A3) (hn : Int32) (hs : Int32) (p1 : Int32) (p2 : Int32) (ou : Nat → Int64) : Option (Int32 × bw_A2 × bw_A3 × Int32 × Int32 × (Nat → Int64)) :=
  bw_b6 (fX5_set d sl hn hs p1 p2) fun ec r d1 sl1 hn1 hs1 =>
  if ec = 0 then
    some (0, d1, sl1, hn1, hs1, vp_updL ou 0 (Int32.toInt64 r))
  else if ec = 1 then
    some (1, d1, sl1, hn1, hs1, ou)
  else if ec = 2 then
    some (2, d1, sl1, hn1, hs1, ou)
  else none
set_option maxHeartbeats 4000000 in
set_option maxRecDepth 100000 in
theorem mL_set (l : Launch) (hfl : l.stackTraces = false) (G : va_G) (cy : Nat → ClassId) (g : Nat) (b : Nat → Nat → Nat) (o : Nat) (d : bw_A2) (t : bw_A2) (sl : bw_A3) (hn : Int32) (hs : Int32) (cs : bw_A1) (ln : Int32) (rp : Int32) (rn : Int32) (rt : Int32) (p1 : Int32) (p2 : Int32) (ou : Nat → Int64) (rk : Int32) (d' : bw_A2) (sl' : bw_A3) (hn' : Int32) (hs' : Int32) (ou' : (Nat → Int64)) (h : fL_set d sl hn hs p1 p2 ou = some (rk, d', sl', hn', hs', ou')) : bw_MH l yL_set cL_set 5 (some .int) [(0, 10, 13, 20), (0, 10, 17, 13)] 8 124 2 G cy g [.ref (b 8 5), .int p1, .int p2, .ref o] ((bw_xW cy b d t sl hn hs cs ln rp rn rt) ++ (bw_oW cy o ou ++ [])) (some (.int rk)) ((bw_xW cy b d' t sl' hn' hs' cs ln rp rn rt) ++ (bw_oW cy o ou' ++ [])) := by
  refine bw_ofWH (by decide +kernel) RL rfl (Nat.le_of_ble_eq_true rfl) ?_
  intro p e s m below meth c ls S hr hlocks ht hK hZ hI hl
  have hx := S.1
  have hb := S.2.1
  generalize va_A _ s.heap.size = A at hI hZ ⊢
  generalize hQ : vx_MQ below _ _ _ s 2 (6 * 2) A = Q
  have hl : lv_has ls 5 [(0, .ref (b 8 5)), (1, .int p1), (2, .int p2), (3, .ref o)] := hl
  unfold fL_set at h
  refine lv_aload_n hx hb dL_set_0 rfl (lv_at hl 3 rfl) ?_
  refine lv_iconst (v := 0) hx hb dL_set_1 rfl ?_
  refine lv_aload_n hx hb dL_set_2 rfl (lv_at hl 0 rfl) ?_
  refine lv_iload_n hx hb dL_set_3 rfl (lv_at hl 1 rfl) ?_
  refine lv_iload_n hx hb dL_set_4 rfl (lv_at hl 2 rfl) ?_
  obtain ⟨ec, r, d1, sl1, hn1, hs1, hc, h⟩ := bw_b6_e h
  refine bw_callVX S hK hZ hI (mX5_set l hfl G cy g b d t sl hn hs cs ln rp rn rt p1 p2 ec r d1 sl1 hn1 hs1 hc) Y_X5_set V_X5_set l_L_25 ⟨(Nat.le_of_ble_eq_true rfl), (Nat.le_of_ble_eq_true rfl)⟩ (q0 := 0) rfl rfl rfl (ws' := ((bw_xW cy b d1 t sl1 hn1 hs1 cs ln rp rn rt) ++ (bw_oW cy o ou ++ []))) (List.Perm.refl _) (List.Perm.refl _) rfl rfl hl.1 (rest := [.int 0, .ref o]) (st1 := [.int r, .int 0, .ref o]) rfl rfl (Nat.le_of_ble_eq_true rfl) dL_set_5 ⟨(Nat.le_of_ble_eq_true rfl), (Nat.le_of_ble_eq_true rfl)⟩ (fun h0 q ce H locs hI h1 h2 h3 => ?_) (fun h0 H locs hI => ?_)
  · rw [if_neg h0] at h
    by_cases c0 : ec = 1
    · subst c0
      rw [if_pos rfl] at h
      refine bw_catch (E := 1) S hZ ht [] (0, 10, 13, 20) [(0, 10, 17, 13)] rfl (by decide) (fun z hz => absurd hz List.not_mem_nil) (by decide) (by decide) cl_20 h1 h2 h3 ?_
      refine lv_astore (lv' := [(4, .ref q), (0, .ref (b 8 5)), (1, .int p1), (2, .int p2), (3, .ref o)]) hx hb dL_set_13 hl (by decide) rfl (fun ls hl => ?_)
      refine lv_iconst (v := 1) hx hb dL_set_15 rfl ?_
      exact bw_iretH (dd := (d1, sl1, hn1, hs1, ou)) (rr := (rk, d', sl', hn', hs', ou')) S hr hlocks h (fun q : bw_A2 × bw_A3 × Int32 × Int32 × (Nat → Int64) => ((bw_xW cy b q.1 t q.2.1 q.2.2.1 q.2.2.2.1 cs ln rp rn rt) ++ (bw_oW cy o q.2.2.2.2 ++ []))) hI (Nat.le_of_ble_eq_true rfl) (Nat.le_of_ble_eq_true rfl) dL_set_16 hQ
    rw [if_neg c0] at h
    by_cases c1 : ec = 2
    · subst c1
      rw [if_pos rfl] at h
      refine bw_catch (E := 2) S hZ ht [(0, 10, 13, 20)] (0, 10, 17, 13) [] rfl (by decide) (List.forall_mem_cons.mpr ⟨⟨by decide, 1, by decide, by decide, by decide, cl_20⟩, fun z hz => absurd hz List.not_mem_nil⟩) (by decide) (by decide) cl_13 h1 h2 h3 ?_
      refine lv_astore (lv' := [(4, .ref q), (0, .ref (b 8 5)), (1, .int p1), (2, .int p2), (3, .ref o)]) hx hb dL_set_17 hl (by decide) rfl (fun ls hl => ?_)
      refine lv_iconst (v := 2) hx hb dL_set_19 rfl ?_
      exact bw_iretH (dd := (d1, sl1, hn1, hs1, ou)) (rr := (rk, d', sl', hn', hs', ou')) S hr hlocks h (fun q : bw_A2 × bw_A3 × Int32 × Int32 × (Nat → Int64) => ((bw_xW cy b q.1 t q.2.1 q.2.2.1 q.2.2.2.1 cs ln rp rn rt) ++ (bw_oW cy o q.2.2.2.2 ++ []))) hI (Nat.le_of_ble_eq_true rfl) (Nat.le_of_ble_eq_true rfl) dL_set_20 hQ
    rw [if_neg c1] at h
    exact bw_none h
  rw [if_pos h0] at h
  refine lv_i2l hx hb dL_set_8 rfl ?_
  refine bw_last hx hb hK hI 94 (ws' := ((bw_xW cy b d1 t sl1 hn1 hs1 cs ln rp rn rt) ++ (bw_oW cy o (vp_updL ou 0 (Int32.toInt64 r)) ++ []))) (by decide) rfl rfl dL_set_9 (fun H locs hI => ?_)
  refine lv_goto (tgt := 21) hx hb dL_set_10 (by decide) ?_
  refine lv_iconst (v := 0) hx hb dL_set_21 rfl ?_
  exact bw_iretH (dd := (d1, sl1, hn1, hs1, vp_updL ou 0 (Int32.toInt64 r))) (rr := (rk, d', sl', hn', hs', ou')) S hr hlocks h (fun q : bw_A2 × bw_A3 × Int32 × Int32 × (Nat → Int64) => ((bw_xW cy b q.1 t q.2.1 q.2.2.1 q.2.2.2.1 cs ln rp rn rt) ++ (bw_oW cy o q.2.2.2.2 ++ []))) hI (Nat.le_of_ble_eq_true rfl) (Nat.le_of_ble_eq_true rfl) dL_set_22 hQ
set_option maxRecDepth 100000 in
theorem Y_L_set : bw_YH yL_set cL_set 5 (some .int) [(0, 10, 13, 20), (0, 10, 17, 13)] 4 := ⟨bw_memT 566 rfl rfl, bw_memT 0 rfl rfl, bw_memT 565 rfl rfl, ⟨by decide +kernel, by decide +kernel⟩, by decide +kernel⟩
set_option maxRecDepth 100000 in
theorem l_L_28 : (Jvm.Cond.methodLink "BufferLoansLaw" (28 : Nat) ({ cls := "BufferLoans", name := "done", desc := "(II)I" } : Jvm.MethodName)) ∈ bw_L := bw_memT 579 rfl rfl
def fL_done (d : bw_A2) (sl : bw_A3) (hn : Int32) (hs : Int32) (p1 : Int32) (p2 : Int32) (ou : Nat → Int64) : Option (Int32 × bw_A2 × bw_A3 × Int32 × Int32 × (Nat → Int64)) :=
  bw_b6 (fX5_done d sl hn hs p1 p2) fun ec r d1 sl1 hn1 hs1 =>
  if ec = 0 then
    some (0, d1, sl1, hn1, hs1, vp_updL ou 0 (Int32.toInt64 r))
  else if ec = 1 then
    some (1, d1, sl1, hn1, hs1, ou)
  else if ec = 2 then
    some (2, d1, sl1, hn1, hs1, ou)
  else if ec = 3 then
    some (3, d1, sl1, hn1, hs1, ou)
  else none
set_option maxHeartbeats 4000000 in
set_option maxRecDepth 100000 in
theorem mL_done (l : Launch) (hfl : l.stackTraces = false) (G : va_G) (cy : Nat → ClassId) (g : Nat) (b : Nat → Nat → Nat) (o : Nat) (d : bw_A2) (t : bw_A2) (sl : bw_A3) (hn : Int32) (hs : Int32) (cs : bw_A1) (ln : Int32) (rp : Int32) (rn : Int32) (rt : Int32) (p1 : Int32) (p2 : Int32) (ou : Nat → Int64) (rk : Int32) (d' : bw_A2) (sl' : bw_A3) (hn' : Int32) (hs' : Int32) (ou' : (Nat → Int64)) (h : fL_done d sl hn hs p1 p2 ou = some (rk, d', sl', hn', hs', ou')) : bw_MH l yL_done cL_done 5 (some .int) [(0, 10, 13, 20), (0, 10, 17, 13), (0, 10, 21, 15)] 8 151 3 G cy g [.ref (b 8 5), .int p1, .int p2, .ref o] ((bw_xW cy b d t sl hn hs cs ln rp rn rt) ++ (bw_oW cy o ou ++ [])) (some (.int rk)) ((bw_xW cy b d' t sl' hn' hs' cs ln rp rn rt) ++ (bw_oW cy o ou' ++ [])) := by
  refine bw_ofWH (by decide +kernel) RL rfl (Nat.le_of_ble_eq_true rfl) ?_
  intro p e s m below meth c ls S hr hlocks ht hK hZ hI hl
  have hx := S.1
  have hb := S.2.1
  generalize va_A _ s.heap.size = A at hI hZ ⊢
  generalize hQ : vx_MQ below _ _ _ s 3 (6 * 3) A = Q
  have hl : lv_has ls 5 [(0, .ref (b 8 5)), (1, .int p1), (2, .int p2), (3, .ref o)] := hl
  unfold fL_done at h
  refine lv_aload_n hx hb dL_done_0 rfl (lv_at hl 3 rfl) ?_
  refine lv_iconst (v := 0) hx hb dL_done_1 rfl ?_
  refine lv_aload_n hx hb dL_done_2 rfl (lv_at hl 0 rfl) ?_
  refine lv_iload_n hx hb dL_done_3 rfl (lv_at hl 1 rfl) ?_
  refine lv_iload_n hx hb dL_done_4 rfl (lv_at hl 2 rfl) ?_
  obtain ⟨ec, r, d1, sl1, hn1, hs1, hc, h⟩ := bw_b6_e h
  refine bw_callVX S hK hZ hI (mX5_done l hfl G cy g b d t sl hn hs cs ln rp rn rt p1 p2 ec r d1 sl1 hn1 hs1 hc) Y_X5_done V_X5_done l_L_28 ⟨(Nat.le_of_ble_eq_true rfl), (Nat.le_of_ble_eq_true rfl)⟩ (q0 := 0) rfl rfl rfl (ws' := ((bw_xW cy b d1 t sl1 hn1 hs1 cs ln rp rn rt) ++ (bw_oW cy o ou ++ []))) (List.Perm.refl _) (List.Perm.refl _) rfl rfl hl.1 (rest := [.int 0, .ref o]) (st1 := [.int r, .int 0, .ref o]) rfl rfl (Nat.le_of_ble_eq_true rfl) dL_done_5 ⟨(Nat.le_of_ble_eq_true rfl), (Nat.le_of_ble_eq_true rfl)⟩ (fun h0 q ce H locs hI h1 h2 h3 => ?_) (fun h0 H locs hI => ?_)
  · rw [if_neg h0] at h
    by_cases c0 : ec = 1
    · subst c0
      rw [if_pos rfl] at h
      refine bw_catch (E := 1) S hZ ht [] (0, 10, 13, 20) [(0, 10, 17, 13), (0, 10, 21, 15)] rfl (by decide) (fun z hz => absurd hz List.not_mem_nil) (by decide) (by decide) cl_20 h1 h2 h3 ?_
      refine lv_astore (lv' := [(4, .ref q), (0, .ref (b 8 5)), (1, .int p1), (2, .int p2), (3, .ref o)]) hx hb dL_done_13 hl (by decide) rfl (fun ls hl => ?_)
      refine lv_iconst (v := 1) hx hb dL_done_15 rfl ?_
      exact bw_iretH (dd := (d1, sl1, hn1, hs1, ou)) (rr := (rk, d', sl', hn', hs', ou')) S hr hlocks h (fun q : bw_A2 × bw_A3 × Int32 × Int32 × (Nat → Int64) => ((bw_xW cy b q.1 t q.2.1 q.2.2.1 q.2.2.2.1 cs ln rp rn rt) ++ (bw_oW cy o q.2.2.2.2 ++ []))) hI (Nat.le_of_ble_eq_true rfl) (Nat.le_of_ble_eq_true rfl) dL_done_16 hQ
    rw [if_neg c0] at h
    by_cases c1 : ec = 2
    · subst c1
      rw [if_pos rfl] at h
      refine bw_catch (E := 2) S hZ ht [(0, 10, 13, 20)] (0, 10, 17, 13) [(0, 10, 21, 15)] rfl (by decide) (List.forall_mem_cons.mpr ⟨⟨by decide, 1, by decide, by decide, by decide, cl_20⟩, fun z hz => absurd hz List.not_mem_nil⟩) (by decide) (by decide) cl_13 h1 h2 h3 ?_
      refine lv_astore (lv' := [(4, .ref q), (0, .ref (b 8 5)), (1, .int p1), (2, .int p2), (3, .ref o)]) hx hb dL_done_17 hl (by decide) rfl (fun ls hl => ?_)
      refine lv_iconst (v := 2) hx hb dL_done_19 rfl ?_
      exact bw_iretH (dd := (d1, sl1, hn1, hs1, ou)) (rr := (rk, d', sl', hn', hs', ou')) S hr hlocks h (fun q : bw_A2 × bw_A3 × Int32 × Int32 × (Nat → Int64) => ((bw_xW cy b q.1 t q.2.1 q.2.2.1 q.2.2.2.1 cs ln rp rn rt) ++ (bw_oW cy o q.2.2.2.2 ++ []))) hI (Nat.le_of_ble_eq_true rfl) (Nat.le_of_ble_eq_true rfl) dL_done_20 hQ
    rw [if_neg c1] at h
    by_cases c2 : ec = 3
    · subst c2
      rw [if_pos rfl] at h
      refine bw_catch (E := 3) S hZ ht [(0, 10, 13, 20), (0, 10, 17, 13)] (0, 10, 21, 15) [] rfl (by decide) (List.forall_mem_cons.mpr ⟨⟨by decide, 1, by decide, by decide, by decide, cl_20⟩, List.forall_mem_cons.mpr ⟨⟨by decide, 2, by decide, by decide, by decide, cl_13⟩, fun z hz => absurd hz List.not_mem_nil⟩⟩) (by decide) (by decide) cl_15 h1 h2 h3 ?_
      refine lv_astore (lv' := [(4, .ref q), (0, .ref (b 8 5)), (1, .int p1), (2, .int p2), (3, .ref o)]) hx hb dL_done_21 hl (by decide) rfl (fun ls hl => ?_)
      refine lv_iconst (v := 3) hx hb dL_done_23 rfl ?_
      exact bw_iretH (dd := (d1, sl1, hn1, hs1, ou)) (rr := (rk, d', sl', hn', hs', ou')) S hr hlocks h (fun q : bw_A2 × bw_A3 × Int32 × Int32 × (Nat → Int64) => ((bw_xW cy b q.1 t q.2.1 q.2.2.1 q.2.2.2.1 cs ln rp rn rt) ++ (bw_oW cy o q.2.2.2.2 ++ []))) hI (Nat.le_of_ble_eq_true rfl) (Nat.le_of_ble_eq_true rfl) dL_done_24 hQ
    rw [if_neg c2] at h
    exact bw_none h
  rw [if_pos h0] at h
  refine lv_i2l hx hb dL_done_8 rfl ?_
  refine bw_last hx hb hK hI 94 (ws' := ((bw_xW cy b d1 t sl1 hn1 hs1 cs ln rp rn rt) ++ (bw_oW cy o (vp_updL ou 0 (Int32.toInt64 r)) ++ []))) (by decide) rfl rfl dL_done_9 (fun H locs hI => ?_)
  refine lv_goto (tgt := 25) hx hb dL_done_10 (by decide) ?_
  refine lv_iconst (v := 0) hx hb dL_done_25 rfl ?_
  exact bw_iretH (dd := (d1, sl1, hn1, hs1, vp_updL ou 0 (Int32.toInt64 r))) (rr := (rk, d', sl', hn', hs', ou')) S hr hlocks h (fun q : bw_A2 × bw_A3 × Int32 × Int32 × (Nat → Int64) => ((bw_xW cy b q.1 t q.2.1 q.2.2.1 q.2.2.2.1 cs ln rp rn rt) ++ (bw_oW cy o q.2.2.2.2 ++ []))) hI (Nat.le_of_ble_eq_true rfl) (Nat.le_of_ble_eq_true rfl) dL_done_26 hQ
set_option maxRecDepth 100000 in
theorem Y_L_done : bw_YH yL_done cL_done 5 (some .int) [(0, 10, 13, 20), (0, 10, 17, 13), (0, 10, 21, 15)] 4 := ⟨bw_memT 578 rfl rfl, bw_memT 0 rfl rfl, bw_memT 577 rfl rfl, ⟨by decide +kernel, by decide +kernel⟩, by decide +kernel⟩
set_option maxRecDepth 100000 in
theorem l_L_31 : (Jvm.Cond.methodLink "BufferLoansLaw" (31 : Nat) ({ cls := "BufferLoans", name := "lend", desc := "(III)I" } : Jvm.MethodName)) ∈ bw_L := bw_memT 590 rfl rfl
def fL_lend (d : bw_A2) (sl : bw_A3) (hn : Int32) (hs : Int32) (p1 : Int32) (p2 : Int32) (p3 : Int32) (ou : Nat → Int64) : Option (Int32 × bw_A2 × bw_A3 × Int32 × Int32 × (Nat → Int64)) :=
  bw_b6 (fX5_lend d sl hn hs p1 p2 p3) fun ec r d1 sl1 hn1 hs1 =>
  if ec = 0 then
    some (0, d1, sl1, hn1, hs1, vp_updL ou 0 (Int32.toInt64 r))
  else if ec = 1 then
    some (1, d1, sl1, hn1, hs1, ou)
  else if ec = 2 then
    some (2, d1, sl1, hn1, hs1, ou)
  else if ec = 3 then
    some (3, d1, sl1, hn1, hs1, ou)
  else none
set_option maxHeartbeats 4000000 in
set_option maxRecDepth 100000 in
theorem mL_lend (l : Launch) (hfl : l.stackTraces = false) (G : va_G) (cy : Nat → ClassId) (g : Nat) (b : Nat → Nat → Nat) (o : Nat) (d : bw_A2) (t : bw_A2) (sl : bw_A3) (hn : Int32) (hs : Int32) (cs : bw_A1) (ln : Int32) (rp : Int32) (rn : Int32) (rt : Int32) (p1 : Int32) (p2 : Int32) (p3 : Int32) (ou : Nat → Int64) (rk : Int32) (d' : bw_A2) (sl' : bw_A3) (hn' : Int32) (hs' : Int32) (ou' : (Nat → Int64)) (h : fL_lend d sl hn hs p1 p2 p3 ou = some (rk, d', sl', hn', hs', ou')) : bw_MH l yL_lend cL_lend 6 (some .int) [(0, 12, 15, 20), (0, 12, 19, 13), (0, 12, 23, 15)] 8 126 3 G cy g [.ref (b 8 5), .int p1, .int p2, .int p3, .ref o] ((bw_xW cy b d t sl hn hs cs ln rp rn rt) ++ (bw_oW cy o ou ++ [])) (some (.int rk)) ((bw_xW cy b d' t sl' hn' hs' cs ln rp rn rt) ++ (bw_oW cy o ou' ++ [])) := by
  refine bw_ofWH (by decide +kernel) RL rfl (Nat.le_of_ble_eq_true rfl) ?_
  intro p e s m below meth c ls S hr hlocks ht hK hZ hI hl
  have hx := S.1
  have hb := S.2.1
  generalize va_A _ s.heap.size = A at hI hZ ⊢
  generalize hQ : vx_MQ below _ _ _ s 3 (6 * 3) A = Q
  have hl : lv_has ls 6 [(0, .ref (b 8 5)), (1, .int p1), (2, .int p2), (3, .int p3), (4, .ref o)] := hl
  unfold fL_lend at h
  refine lv_aload hx hb dL_lend_0 (lv_at hl 4 rfl) ?_
  refine lv_iconst (v := 0) hx hb dL_lend_2 rfl ?_
  refine lv_aload_n hx hb dL_lend_3 rfl (lv_at hl 0 rfl) ?_
  refine lv_iload_n hx hb dL_lend_4 rfl (lv_at hl 1 rfl) ?_
  refine lv_iload_n hx hb dL_lend_5 rfl (lv_at hl 2 rfl) ?_
  refine lv_iload_n hx hb dL_lend_6 rfl (lv_at hl 3 rfl) ?_
  obtain ⟨ec, r, d1, sl1, hn1, hs1, hc, h⟩ := bw_b6_e h
  refine bw_callVX S hK hZ hI (mX5_lend l hfl G cy g b d t sl hn hs cs ln rp rn rt p1 p2 p3 ec r d1 sl1 hn1 hs1 hc) Y_X5_lend V_X5_lend l_L_31 ⟨(Nat.le_of_ble_eq_true rfl), (Nat.le_of_ble_eq_true rfl)⟩ (q0 := 0) rfl rfl rfl (ws' := ((bw_xW cy b d1 t sl1 hn1 hs1 cs ln rp rn rt) ++ (bw_oW cy o ou ++ []))) (List.Perm.refl _) (List.Perm.refl _) rfl rfl hl.1 (rest := [.int 0, .ref o]) (st1 := [.int r, .int 0, .ref o]) rfl rfl (Nat.le_of_ble_eq_true rfl) dL_lend_7 ⟨(Nat.le_of_ble_eq_true rfl), (Nat.le_of_ble_eq_true rfl)⟩ (fun h0 q ce H locs hI h1 h2 h3 => ?_) (fun h0 H locs hI => ?_)
  · rw [if_neg h0] at h
    by_cases c0 : ec = 1
    · subst c0
      rw [if_pos rfl] at h
      refine bw_catch (E := 1) S hZ ht [] (0, 12, 15, 20) [(0, 12, 19, 13), (0, 12, 23, 15)] rfl (by decide) (fun z hz => absurd hz List.not_mem_nil) (by decide) (by decide) cl_20 h1 h2 h3 ?_
      refine lv_astore (lv' := [(5, .ref q), (0, .ref (b 8 5)), (1, .int p1), (2, .int p2), (3, .int p3), (4, .ref o)]) hx hb dL_lend_15 hl (by decide) rfl (fun ls hl => ?_)
      refine lv_iconst (v := 1) hx hb dL_lend_17 rfl ?_
      exact bw_iretH (dd := (d1, sl1, hn1, hs1, ou)) (rr := (rk, d', sl', hn', hs', ou')) S hr hlocks h (fun q : bw_A2 × bw_A3 × Int32 × Int32 × (Nat → Int64) => ((bw_xW cy b q.1 t q.2.1 q.2.2.1 q.2.2.2.1 cs ln rp rn rt) ++ (bw_oW cy o q.2.2.2.2 ++ []))) hI (Nat.le_of_ble_eq_true rfl) (Nat.le_of_ble_eq_true rfl) dL_lend_18 hQ
    rw [if_neg c0] at h
    by_cases c1 : ec = 2
    · subst c1
      rw [if_pos rfl] at h
      refine bw_catch (E := 2) S hZ ht [(0, 12, 15, 20)] (0, 12, 19, 13) [(0, 12, 23, 15)] rfl (by decide) (List.forall_mem_cons.mpr ⟨⟨by decide, 1, by decide, by decide, by decide, cl_20⟩, fun z hz => absurd hz List.not_mem_nil⟩) (by decide) (by decide) cl_13 h1 h2 h3 ?_
      refine lv_astore (lv' := [(5, .ref q), (0, .ref (b 8 5)), (1, .int p1), (2, .int p2), (3, .int p3), (4, .ref o)]) hx hb dL_lend_19 hl (by decide) rfl (fun ls hl => ?_)
      refine lv_iconst (v := 2) hx hb dL_lend_21 rfl ?_
      exact bw_iretH (dd := (d1, sl1, hn1, hs1, ou)) (rr := (rk, d', sl', hn', hs', ou')) S hr hlocks h (fun q : bw_A2 × bw_A3 × Int32 × Int32 × (Nat → Int64) => ((bw_xW cy b q.1 t q.2.1 q.2.2.1 q.2.2.2.1 cs ln rp rn rt) ++ (bw_oW cy o q.2.2.2.2 ++ []))) hI (Nat.le_of_ble_eq_true rfl) (Nat.le_of_ble_eq_true rfl) dL_lend_22 hQ
    rw [if_neg c1] at h
    by_cases c2 : ec = 3
    · subst c2
      rw [if_pos rfl] at h
      refine bw_catch (E := 3) S hZ ht [(0, 12, 15, 20), (0, 12, 19, 13)] (0, 12, 23, 15) [] rfl (by decide) (List.forall_mem_cons.mpr ⟨⟨by decide, 1, by decide, by decide, by decide, cl_20⟩, List.forall_mem_cons.mpr ⟨⟨by decide, 2, by decide, by decide, by decide, cl_13⟩, fun z hz => absurd hz List.not_mem_nil⟩⟩) (by decide) (by decide) cl_15 h1 h2 h3 ?_
      refine lv_astore (lv' := [(5, .ref q), (0, .ref (b 8 5)), (1, .int p1), (2, .int p2), (3, .int p3), (4, .ref o)]) hx hb dL_lend_23 hl (by decide) rfl (fun ls hl => ?_)
      refine lv_iconst (v := 3) hx hb dL_lend_25 rfl ?_
      exact bw_iretH (dd := (d1, sl1, hn1, hs1, ou)) (rr := (rk, d', sl', hn', hs', ou')) S hr hlocks h (fun q : bw_A2 × bw_A3 × Int32 × Int32 × (Nat → Int64) => ((bw_xW cy b q.1 t q.2.1 q.2.2.1 q.2.2.2.1 cs ln rp rn rt) ++ (bw_oW cy o q.2.2.2.2 ++ []))) hI (Nat.le_of_ble_eq_true rfl) (Nat.le_of_ble_eq_true rfl) dL_lend_26 hQ
    rw [if_neg c2] at h
    exact bw_none h
  rw [if_pos h0] at h
  refine lv_i2l hx hb dL_lend_10 rfl ?_
  refine bw_last hx hb hK hI 94 (ws' := ((bw_xW cy b d1 t sl1 hn1 hs1 cs ln rp rn rt) ++ (bw_oW cy o (vp_updL ou 0 (Int32.toInt64 r)) ++ []))) (by decide) rfl rfl dL_lend_11 (fun H locs hI => ?_)
  refine lv_goto (tgt := 27) hx hb dL_lend_12 (by decide) ?_
  refine lv_iconst (v := 0) hx hb dL_lend_27 rfl ?_
  exact bw_iretH (dd := (d1, sl1, hn1, hs1, vp_updL ou 0 (Int32.toInt64 r))) (rr := (rk, d', sl', hn', hs', ou')) S hr hlocks h (fun q : bw_A2 × bw_A3 × Int32 × Int32 × (Nat → Int64) => ((bw_xW cy b q.1 t q.2.1 q.2.2.1 q.2.2.2.1 cs ln rp rn rt) ++ (bw_oW cy o q.2.2.2.2 ++ []))) hI (Nat.le_of_ble_eq_true rfl) (Nat.le_of_ble_eq_true rfl) dL_lend_28 hQ
set_option maxRecDepth 100000 in
theorem Y_L_lend : bw_YH yL_lend cL_lend 6 (some .int) [(0, 12, 15, 20), (0, 12, 19, 13), (0, 12, 23, 15)] 5 := ⟨bw_memT 589 rfl rfl, bw_memT 0 rfl rfl, bw_memT 588 rfl rfl, ⟨by decide +kernel, by decide +kernel⟩, by decide +kernel⟩
set_option maxRecDepth 100000 in
theorem l_L_35 : (Jvm.Cond.methodLink "BufferLoansLaw" (35 : Nat) ({ cls := "BufferLoans", name := "payBack", desc := "(III)I" } : Jvm.MethodName)) ∈ bw_L := bw_memT 600 rfl rfl
def fL_payBack (d : bw_A2) (sl : bw_A3) (hn : Int32) (hs : Int32) (p1 : Int32) (p2 : Int32) (p3 : Int32) (ou : Nat → Int64) : Option (Int32 × bw_A2 × bw_A3 × Int32 × Int32 × (Nat → Int64)) :=
  bw_b6 (fX5_payBack d sl hn hs p1 p2 p3) fun ec r d1 sl1 hn1 hs1 =>
  if ec = 0 then
    some (0, d1, sl1, hn1, hs1, vp_updL ou 0 (Int32.toInt64 r))
  else if ec = 1 then
    some (1, d1, sl1, hn1, hs1, ou)
  else if ec = 2 then
    some (2, d1, sl1, hn1, hs1, ou)
  else if ec = 3 then
    some (3, d1, sl1, hn1, hs1, ou)
  else none
set_option maxHeartbeats 4000000 in
set_option maxRecDepth 100000 in
theorem mL_payBack (l : Launch) (hfl : l.stackTraces = false) (G : va_G) (cy : Nat → ClassId) (g : Nat) (b : Nat → Nat → Nat) (o : Nat) (d : bw_A2) (t : bw_A2) (sl : bw_A3) (hn : Int32) (hs : Int32) (cs : bw_A1) (ln : Int32) (rp : Int32) (rn : Int32) (rt : Int32) (p1 : Int32) (p2 : Int32) (p3 : Int32) (ou : Nat → Int64) (rk : Int32) (d' : bw_A2) (sl' : bw_A3) (hn' : Int32) (hs' : Int32) (ou' : (Nat → Int64)) (h : fL_payBack d sl hn hs p1 p2 p3 ou = some (rk, d', sl', hn', hs', ou')) : bw_MH l yL_payBack cL_payBack 6 (some .int) [(0, 12, 15, 20), (0, 12, 19, 13), (0, 12, 23, 15)] 8 126 3 G cy g [.ref (b 8 5), .int p1, .int p2, .int p3, .ref o] ((bw_xW cy b d t sl hn hs cs ln rp rn rt) ++ (bw_oW cy o ou ++ [])) (some (.int rk)) ((bw_xW cy b d' t sl' hn' hs' cs ln rp rn rt) ++ (bw_oW cy o ou' ++ [])) := by
  refine bw_ofWH (by decide +kernel) RL rfl (Nat.le_of_ble_eq_true rfl) ?_
  intro p e s m below meth c ls S hr hlocks ht hK hZ hI hl
  have hx := S.1
  have hb := S.2.1
  generalize va_A _ s.heap.size = A at hI hZ ⊢
  generalize hQ : vx_MQ below _ _ _ s 3 (6 * 3) A = Q
  have hl : lv_has ls 6 [(0, .ref (b 8 5)), (1, .int p1), (2, .int p2), (3, .int p3), (4, .ref o)] := hl
  unfold fL_payBack at h
  refine lv_aload hx hb dL_payBack_0 (lv_at hl 4 rfl) ?_
  refine lv_iconst (v := 0) hx hb dL_payBack_2 rfl ?_
  refine lv_aload_n hx hb dL_payBack_3 rfl (lv_at hl 0 rfl) ?_
  refine lv_iload_n hx hb dL_payBack_4 rfl (lv_at hl 1 rfl) ?_
  refine lv_iload_n hx hb dL_payBack_5 rfl (lv_at hl 2 rfl) ?_
  refine lv_iload_n hx hb dL_payBack_6 rfl (lv_at hl 3 rfl) ?_
  obtain ⟨ec, r, d1, sl1, hn1, hs1, hc, h⟩ := bw_b6_e h
  refine bw_callVX S hK hZ hI (mX5_payBack l hfl G cy g b d t sl hn hs cs ln rp rn rt p1 p2 p3 ec r d1 sl1 hn1 hs1 hc) Y_X5_payBack V_X5_payBack l_L_35 ⟨(Nat.le_of_ble_eq_true rfl), (Nat.le_of_ble_eq_true rfl)⟩ (q0 := 0) rfl rfl rfl (ws' := ((bw_xW cy b d1 t sl1 hn1 hs1 cs ln rp rn rt) ++ (bw_oW cy o ou ++ []))) (List.Perm.refl _) (List.Perm.refl _) rfl rfl hl.1 (rest := [.int 0, .ref o]) (st1 := [.int r, .int 0, .ref o]) rfl rfl (Nat.le_of_ble_eq_true rfl) dL_payBack_7 ⟨(Nat.le_of_ble_eq_true rfl), (Nat.le_of_ble_eq_true rfl)⟩ (fun h0 q ce H locs hI h1 h2 h3 => ?_) (fun h0 H locs hI => ?_)
  · rw [if_neg h0] at h
    by_cases c0 : ec = 1
    · subst c0
      rw [if_pos rfl] at h
      refine bw_catch (E := 1) S hZ ht [] (0, 12, 15, 20) [(0, 12, 19, 13), (0, 12, 23, 15)] rfl (by decide) (fun z hz => absurd hz List.not_mem_nil) (by decide) (by decide) cl_20 h1 h2 h3 ?_
      refine lv_astore (lv' := [(5, .ref q), (0, .ref (b 8 5)), (1, .int p1), (2, .int p2), (3, .int p3), (4, .ref o)]) hx hb dL_payBack_15 hl (by decide) rfl (fun ls hl => ?_)
      refine lv_iconst (v := 1) hx hb dL_payBack_17 rfl ?_
      exact bw_iretH (dd := (d1, sl1, hn1, hs1, ou)) (rr := (rk, d', sl', hn', hs', ou')) S hr hlocks h (fun q : bw_A2 × bw_A3 × Int32 × Int32 × (Nat → Int64) => ((bw_xW cy b q.1 t q.2.1 q.2.2.1 q.2.2.2.1 cs ln rp rn rt) ++ (bw_oW cy o q.2.2.2.2 ++ []))) hI (Nat.le_of_ble_eq_true rfl) (Nat.le_of_ble_eq_true rfl) dL_payBack_18 hQ
    rw [if_neg c0] at h
    by_cases c1 : ec = 2
    · subst c1
      rw [if_pos rfl] at h
      refine bw_catch (E := 2) S hZ ht [(0, 12, 15, 20)] (0, 12, 19, 13) [(0, 12, 23, 15)] rfl (by decide) (List.forall_mem_cons.mpr ⟨⟨by decide, 1, by decide, by decide, by decide, cl_20⟩, fun z hz => absurd hz List.not_mem_nil⟩) (by decide) (by decide) cl_13 h1 h2 h3 ?_
      refine lv_astore (lv' := [(5, .ref q), (0, .ref (b 8 5)), (1, .int p1), (2, .int p2), (3, .int p3), (4, .ref o)]) hx hb dL_payBack_19 hl (by decide) rfl (fun ls hl => ?_)
      refine lv_iconst (v := 2) hx hb dL_payBack_21 rfl ?_
      exact bw_iretH (dd := (d1, sl1, hn1, hs1, ou)) (rr := (rk, d', sl', hn', hs', ou')) S hr hlocks h (fun q : bw_A2 × bw_A3 × Int32 × Int32 × (Nat → Int64) => ((bw_xW cy b q.1 t q.2.1 q.2.2.1 q.2.2.2.1 cs ln rp rn rt) ++ (bw_oW cy o q.2.2.2.2 ++ []))) hI (Nat.le_of_ble_eq_true rfl) (Nat.le_of_ble_eq_true rfl) dL_payBack_22 hQ
    rw [if_neg c1] at h
    by_cases c2 : ec = 3
    · subst c2
      rw [if_pos rfl] at h
      refine bw_catch (E := 3) S hZ ht [(0, 12, 15, 20), (0, 12, 19, 13)] (0, 12, 23, 15) [] rfl (by decide) (List.forall_mem_cons.mpr ⟨⟨by decide, 1, by decide, by decide, by decide, cl_20⟩, List.forall_mem_cons.mpr ⟨⟨by decide, 2, by decide, by decide, by decide, cl_13⟩, fun z hz => absurd hz List.not_mem_nil⟩⟩) (by decide) (by decide) cl_15 h1 h2 h3 ?_
      refine lv_astore (lv' := [(5, .ref q), (0, .ref (b 8 5)), (1, .int p1), (2, .int p2), (3, .int p3), (4, .ref o)]) hx hb dL_payBack_23 hl (by decide) rfl (fun ls hl => ?_)
      refine lv_iconst (v := 3) hx hb dL_payBack_25 rfl ?_
      exact bw_iretH (dd := (d1, sl1, hn1, hs1, ou)) (rr := (rk, d', sl', hn', hs', ou')) S hr hlocks h (fun q : bw_A2 × bw_A3 × Int32 × Int32 × (Nat → Int64) => ((bw_xW cy b q.1 t q.2.1 q.2.2.1 q.2.2.2.1 cs ln rp rn rt) ++ (bw_oW cy o q.2.2.2.2 ++ []))) hI (Nat.le_of_ble_eq_true rfl) (Nat.le_of_ble_eq_true rfl) dL_payBack_26 hQ
    rw [if_neg c2] at h
    exact bw_none h
  rw [if_pos h0] at h
  refine lv_i2l hx hb dL_payBack_10 rfl ?_
  refine bw_last hx hb hK hI 94 (ws' := ((bw_xW cy b d1 t sl1 hn1 hs1 cs ln rp rn rt) ++ (bw_oW cy o (vp_updL ou 0 (Int32.toInt64 r)) ++ []))) (by decide) rfl rfl dL_payBack_11 (fun H locs hI => ?_)
  refine lv_goto (tgt := 27) hx hb dL_payBack_12 (by decide) ?_
  refine lv_iconst (v := 0) hx hb dL_payBack_27 rfl ?_
  exact bw_iretH (dd := (d1, sl1, hn1, hs1, vp_updL ou 0 (Int32.toInt64 r))) (rr := (rk, d', sl', hn', hs', ou')) S hr hlocks h (fun q : bw_A2 × bw_A3 × Int32 × Int32 × (Nat → Int64) => ((bw_xW cy b q.1 t q.2.1 q.2.2.1 q.2.2.2.1 cs ln rp rn rt) ++ (bw_oW cy o q.2.2.2.2 ++ []))) hI (Nat.le_of_ble_eq_true rfl) (Nat.le_of_ble_eq_true rfl) dL_payBack_28 hQ
set_option maxRecDepth 100000 in
theorem Y_L_payBack : bw_YH yL_payBack cL_payBack 6 (some .int) [(0, 12, 15, 20), (0, 12, 19, 13), (0, 12, 23, 15)] 5 := ⟨bw_memT 599 rfl rfl, bw_memT 0 rfl rfl, bw_memT 598 rfl rfl, ⟨by decide +kernel, by decide +kernel⟩, by decide +kernel⟩
set_option maxRecDepth 100000 in
theorem l_L_38 : (Jvm.Cond.methodLink "BufferLoansLaw" (38 : Nat) ({ cls := "BufferLoans", name := "close", desc := "(I)I" } : Jvm.MethodName)) ∈ bw_L := bw_memT 610 rfl rfl
def fL_close (d : bw_A2) (sl : bw_A3) (hn : Int32) (hs : Int32) (p1 : Int32) (ou : Nat → Int64) : Option (Int32 × bw_A2 × bw_A3 × Int32 × Int32 × (Nat → Int64)) :=
  bw_b6 (fX5_close d sl hn hs p1) fun ec r d1 sl1 hn1 hs1 =>
  if ec = 0 then
    some (0, d1, sl1, hn1, hs1, vp_updL ou 0 (Int32.toInt64 r))
  else if ec = 1 then
    some (1, d1, sl1, hn1, hs1, ou)
  else if ec = 3 then
    some (2, d1, sl1, hn1, hs1, ou)
  else none
set_option maxHeartbeats 4000000 in
set_option maxRecDepth 100000 in
theorem mL_close (l : Launch) (hfl : l.stackTraces = false) (G : va_G) (cy : Nat → ClassId) (g : Nat) (b : Nat → Nat → Nat) (o : Nat) (d : bw_A2) (t : bw_A2) (sl : bw_A3) (hn : Int32) (hs : Int32) (cs : bw_A1) (ln : Int32) (rp : Int32) (rn : Int32) (rt : Int32) (p1 : Int32) (ou : Nat → Int64) (rk : Int32) (d' : bw_A2) (sl' : bw_A3) (hn' : Int32) (hs' : Int32) (ou' : (Nat → Int64)) (h : fL_close d sl hn hs p1 ou = some (rk, d', sl', hn', hs', ou')) : bw_MH l yL_close cL_close 4 (some .int) [(0, 9, 12, 20), (0, 9, 15, 15)] 8 143 2 G cy g [.ref (b 8 5), .int p1, .ref o] ((bw_xW cy b d t sl hn hs cs ln rp rn rt) ++ (bw_oW cy o ou ++ [])) (some (.int rk)) ((bw_xW cy b d' t sl' hn' hs' cs ln rp rn rt) ++ (bw_oW cy o ou' ++ [])) := by
  refine bw_ofWH (by decide +kernel) RL rfl (Nat.le_of_ble_eq_true rfl) ?_
  intro p e s m below meth c ls S hr hlocks ht hK hZ hI hl
  have hx := S.1
  have hb := S.2.1
  generalize va_A _ s.heap.size = A at hI hZ ⊢
  generalize hQ : vx_MQ below _ _ _ s 2 (6 * 2) A = Q
  have hl : lv_has ls 4 [(0, .ref (b 8 5)), (1, .int p1), (2, .ref o)] := hl
  unfold fL_close at h
  refine lv_aload_n hx hb dL_close_0 rfl (lv_at hl 2 rfl) ?_
  refine lv_iconst (v := 0) hx hb dL_close_1 rfl ?_
  refine lv_aload_n hx hb dL_close_2 rfl (lv_at hl 0 rfl) ?_
  refine lv_iload_n hx hb dL_close_3 rfl (lv_at hl 1 rfl) ?_
  obtain ⟨ec, r, d1, sl1, hn1, hs1, hc, h⟩ := bw_b6_e h
  refine bw_callVX S hK hZ hI (mX5_close l hfl G cy g b d t sl hn hs cs ln rp rn rt p1 ec r d1 sl1 hn1 hs1 hc) Y_X5_close V_X5_close l_L_38 ⟨(Nat.le_of_ble_eq_true rfl), (Nat.le_of_ble_eq_true rfl)⟩ (q0 := 0) rfl rfl rfl (ws' := ((bw_xW cy b d1 t sl1 hn1 hs1 cs ln rp rn rt) ++ (bw_oW cy o ou ++ []))) (List.Perm.refl _) (List.Perm.refl _) rfl rfl hl.1 (rest := [.int 0, .ref o]) (st1 := [.int r, .int 0, .ref o]) rfl rfl (Nat.le_of_ble_eq_true rfl) dL_close_4 ⟨(Nat.le_of_ble_eq_true rfl), (Nat.le_of_ble_eq_true rfl)⟩ (fun h0 q ce H locs hI h1 h2 h3 => ?_) (fun h0 H locs hI => ?_)
  · rw [if_neg h0] at h
    by_cases c0 : ec = 1
    · subst c0
      rw [if_pos rfl] at h
      refine bw_catch (E := 1) S hZ ht [] (0, 9, 12, 20) [(0, 9, 15, 15)] rfl (by decide) (fun z hz => absurd hz List.not_mem_nil) (by decide) (by decide) cl_20 h1 h2 h3 ?_
      refine lv_astore_n (lv' := [(3, .ref q), (0, .ref (b 8 5)), (1, .int p1), (2, .ref o)]) hx hb dL_close_12 rfl hl (by decide) rfl (fun ls hl => ?_)
      refine lv_iconst (v := 1) hx hb dL_close_13 rfl ?_
      exact bw_iretH (dd := (d1, sl1, hn1, hs1, ou)) (rr := (rk, d', sl', hn', hs', ou')) S hr hlocks h (fun q : bw_A2 × bw_A3 × Int32 × Int32 × (Nat → Int64) => ((bw_xW cy b q.1 t q.2.1 q.2.2.1 q.2.2.2.1 cs ln rp rn rt) ++ (bw_oW cy o q.2.2.2.2 ++ []))) hI (Nat.le_of_ble_eq_true rfl) (Nat.le_of_ble_eq_true rfl) dL_close_14 hQ
    rw [if_neg c0] at h
    by_cases c1 : ec = 3
    · subst c1
      rw [if_pos rfl] at h
      refine bw_catch (E := 3) S hZ ht [(0, 9, 12, 20)] (0, 9, 15, 15) [] rfl (by decide) (List.forall_mem_cons.mpr ⟨⟨by decide, 1, by decide, by decide, by decide, cl_20⟩, fun z hz => absurd hz List.not_mem_nil⟩) (by decide) (by decide) cl_15 h1 h2 h3 ?_
      refine lv_astore_n (lv' := [(3, .ref q), (0, .ref (b 8 5)), (1, .int p1), (2, .ref o)]) hx hb dL_close_15 rfl hl (by decide) rfl (fun ls hl => ?_)
      refine lv_iconst (v := 2) hx hb dL_close_16 rfl ?_
      exact bw_iretH (dd := (d1, sl1, hn1, hs1, ou)) (rr := (rk, d', sl', hn', hs', ou')) S hr hlocks h (fun q : bw_A2 × bw_A3 × Int32 × Int32 × (Nat → Int64) => ((bw_xW cy b q.1 t q.2.1 q.2.2.1 q.2.2.2.1 cs ln rp rn rt) ++ (bw_oW cy o q.2.2.2.2 ++ []))) hI (Nat.le_of_ble_eq_true rfl) (Nat.le_of_ble_eq_true rfl) dL_close_17 hQ
    rw [if_neg c1] at h
    exact bw_none h
  rw [if_pos h0] at h
  refine lv_i2l hx hb dL_close_7 rfl ?_
  refine bw_last hx hb hK hI 94 (ws' := ((bw_xW cy b d1 t sl1 hn1 hs1 cs ln rp rn rt) ++ (bw_oW cy o (vp_updL ou 0 (Int32.toInt64 r)) ++ []))) (by decide) rfl rfl dL_close_8 (fun H locs hI => ?_)
  refine lv_goto (tgt := 18) hx hb dL_close_9 (by decide) ?_
  refine lv_iconst (v := 0) hx hb dL_close_18 rfl ?_
  exact bw_iretH (dd := (d1, sl1, hn1, hs1, vp_updL ou 0 (Int32.toInt64 r))) (rr := (rk, d', sl', hn', hs', ou')) S hr hlocks h (fun q : bw_A2 × bw_A3 × Int32 × Int32 × (Nat → Int64) => ((bw_xW cy b q.1 t q.2.1 q.2.2.1 q.2.2.2.1 cs ln rp rn rt) ++ (bw_oW cy o q.2.2.2.2 ++ []))) hI (Nat.le_of_ble_eq_true rfl) (Nat.le_of_ble_eq_true rfl) dL_close_19 hQ
set_option maxRecDepth 100000 in
theorem Y_L_close : bw_YH yL_close cL_close 4 (some .int) [(0, 9, 12, 20), (0, 9, 15, 15)] 3 := ⟨bw_memT 609 rfl rfl, bw_memT 0 rfl rfl, bw_memT 608 rfl rfl, ⟨by decide +kernel, by decide +kernel⟩, by decide +kernel⟩
set_option maxRecDepth 100000 in
theorem l_L_42 : (Jvm.Cond.methodLink "BufferLoansLaw" (42 : Nat) ({ cls := "BufferLoans", name := "append", desc := "(I)I" } : Jvm.MethodName)) ∈ bw_L := bw_memT 626 rfl rfl
def fL_append (cs : bw_A1) (ln : Int32) (p1 : Int32) (ou : Nat → Int64) : Option (Int32 × bw_A1 × Int32 × (Nat → Int64)) :=
  bw_b4 (fX5_append cs ln p1) fun ec r cs1 ln1 =>
  if ec = 0 then
    some (0, cs1, ln1, vp_updL ou 0 (Int32.toInt64 r))
  else if ec = 2 then
    some (1, cs1, ln1, ou)
  else if ec = 3 then
    some (2, cs1, ln1, ou)
  else none
set_option maxHeartbeats 4000000 in
set_option maxRecDepth 100000 in
theorem mL_append (l : Launch) (hfl : l.stackTraces = false) (G : va_G) (cy : Nat → ClassId) (g : Nat) (b : Nat → Nat → Nat) (o : Nat) (d : bw_A2) (t : bw_A2) (sl : bw_A3) (hn : Int32) (hs : Int32) (cs : bw_A1) (ln : Int32) (rp : Int32) (rn : Int32) (rt : Int32) (p1 : Int32) (ou : Nat → Int64) (rk : Int32) (cs' : bw_A1) (ln' : Int32) (ou' : (Nat → Int64)) (h : fL_append cs ln p1 ou = some (rk, cs', ln', ou')) : bw_MH l yL_append cL_append 4 (some .int) [(0, 9, 12, 13), (0, 9, 15, 15)] 7 103 1 G cy g [.ref (b 8 5), .int p1, .ref o] ((bw_xW cy b d t sl hn hs cs ln rp rn rt) ++ (bw_oW cy o ou ++ [])) (some (.int rk)) ((bw_xW cy b d t sl hn hs cs' ln' rp rn rt) ++ (bw_oW cy o ou' ++ [])) := by
  refine bw_ofWH (by decide +kernel) RL rfl (Nat.le_of_ble_eq_true rfl) ?_
  intro p e s m below meth c ls S hr hlocks ht hK hZ hI hl
  have hx := S.1
  have hb := S.2.1
  generalize va_A _ s.heap.size = A at hI hZ ⊢
  generalize hQ : vx_MQ below _ _ _ s 1 (6 * 1) A = Q
  have hl : lv_has ls 4 [(0, .ref (b 8 5)), (1, .int p1), (2, .ref o)] := hl
  unfold fL_append at h
  refine lv_aload_n hx hb dL_append_0 rfl (lv_at hl 2 rfl) ?_
  refine lv_iconst (v := 0) hx hb dL_append_1 rfl ?_
  refine lv_aload_n hx hb dL_append_2 rfl (lv_at hl 0 rfl) ?_
  refine lv_iload_n hx hb dL_append_3 rfl (lv_at hl 1 rfl) ?_
  obtain ⟨ec, r, cs1, ln1, hc, h⟩ := bw_b4_e h
  refine bw_callVX S hK hZ hI (mX5_append l hfl G cy g b d t sl hn hs cs ln rp rn rt p1 ec r cs1 ln1 hc) Y_X5_append V_X5_append l_L_42 ⟨(Nat.le_of_ble_eq_true rfl), (Nat.le_of_ble_eq_true rfl)⟩ (q0 := 0) rfl rfl rfl (ws' := ((bw_xW cy b d t sl hn hs cs1 ln1 rp rn rt) ++ (bw_oW cy o ou ++ []))) (List.Perm.refl _) (List.Perm.refl _) rfl rfl hl.1 (rest := [.int 0, .ref o]) (st1 := [.int r, .int 0, .ref o]) rfl rfl (Nat.le_of_ble_eq_true rfl) dL_append_4 ⟨(Nat.le_of_ble_eq_true rfl), (Nat.le_of_ble_eq_true rfl)⟩ (fun h0 q ce H locs hI h1 h2 h3 => ?_) (fun h0 H locs hI => ?_)
  · rw [if_neg h0] at h
    by_cases c0 : ec = 2
    · subst c0
      rw [if_pos rfl] at h
      refine bw_catch (E := 2) S hZ ht [] (0, 9, 12, 13) [(0, 9, 15, 15)] rfl (by decide) (fun z hz => absurd hz List.not_mem_nil) (by decide) (by decide) cl_13 h1 h2 h3 ?_
      refine lv_astore_n (lv' := [(3, .ref q), (0, .ref (b 8 5)), (1, .int p1), (2, .ref o)]) hx hb dL_append_12 rfl hl (by decide) rfl (fun ls hl => ?_)
      refine lv_iconst (v := 1) hx hb dL_append_13 rfl ?_
      exact bw_iretH (dd := (cs1, ln1, ou)) (rr := (rk, cs', ln', ou')) S hr hlocks h (fun q : bw_A1 × Int32 × (Nat → Int64) => ((bw_xW cy b d t sl hn hs q.1 q.2.1 rp rn rt) ++ (bw_oW cy o q.2.2 ++ []))) hI (Nat.le_of_ble_eq_true rfl) (Nat.le_of_ble_eq_true rfl) dL_append_14 hQ
    rw [if_neg c0] at h
    by_cases c1 : ec = 3
    · subst c1
      rw [if_pos rfl] at h
      refine bw_catch (E := 3) S hZ ht [(0, 9, 12, 13)] (0, 9, 15, 15) [] rfl (by decide) (List.forall_mem_cons.mpr ⟨⟨by decide, 2, by decide, by decide, by decide, cl_13⟩, fun z hz => absurd hz List.not_mem_nil⟩) (by decide) (by decide) cl_15 h1 h2 h3 ?_
      refine lv_astore_n (lv' := [(3, .ref q), (0, .ref (b 8 5)), (1, .int p1), (2, .ref o)]) hx hb dL_append_15 rfl hl (by decide) rfl (fun ls hl => ?_)
      refine lv_iconst (v := 2) hx hb dL_append_16 rfl ?_
      exact bw_iretH (dd := (cs1, ln1, ou)) (rr := (rk, cs', ln', ou')) S hr hlocks h (fun q : bw_A1 × Int32 × (Nat → Int64) => ((bw_xW cy b d t sl hn hs q.1 q.2.1 rp rn rt) ++ (bw_oW cy o q.2.2 ++ []))) hI (Nat.le_of_ble_eq_true rfl) (Nat.le_of_ble_eq_true rfl) dL_append_17 hQ
    rw [if_neg c1] at h
    exact bw_none h
  rw [if_pos h0] at h
  refine lv_i2l hx hb dL_append_7 rfl ?_
  refine bw_last hx hb hK hI 94 (ws' := ((bw_xW cy b d t sl hn hs cs1 ln1 rp rn rt) ++ (bw_oW cy o (vp_updL ou 0 (Int32.toInt64 r)) ++ []))) (by decide) rfl rfl dL_append_8 (fun H locs hI => ?_)
  refine lv_goto (tgt := 18) hx hb dL_append_9 (by decide) ?_
  refine lv_iconst (v := 0) hx hb dL_append_18 rfl ?_
  exact bw_iretH (dd := (cs1, ln1, vp_updL ou 0 (Int32.toInt64 r))) (rr := (rk, cs', ln', ou')) S hr hlocks h (fun q : bw_A1 × Int32 × (Nat → Int64) => ((bw_xW cy b d t sl hn hs q.1 q.2.1 rp rn rt) ++ (bw_oW cy o q.2.2 ++ []))) hI (Nat.le_of_ble_eq_true rfl) (Nat.le_of_ble_eq_true rfl) dL_append_19 hQ
set_option maxRecDepth 100000 in
theorem Y_L_append : bw_YH yL_append cL_append 4 (some .int) [(0, 9, 12, 13), (0, 9, 15, 15)] 3 := ⟨bw_memT 625 rfl rfl, bw_memT 0 rfl rfl, bw_memT 624 rfl rfl, ⟨by decide +kernel, by decide +kernel⟩, by decide +kernel⟩
set_option maxRecDepth 100000 in
theorem l_L_45 : (Jvm.Cond.methodLink "BufferLoansLaw" (45 : Nat) ({ cls := "BufferLoans", name := "openAll", desc := "()I" } : Jvm.MethodName)) ∈ bw_L := bw_memT 639 rfl rfl
def fL_openAll (d : bw_A2) (sl : bw_A3) (hn : Int32) (hs : Int32) (cs : bw_A1) (ln : Int32) (rp : Int32) (rn : Int32) (rt : Int32) (ou : Nat → Int64) : Option (Int32 × bw_A2 × bw_A3 × Int32 × Int32 × Int32 × Int32 × Int32 × Int32 × (Nat → Int64)) :=
  bw_b10 (fX5_openAll d sl hn hs cs ln rp rn rt) fun ec r d1 sl1 hn1 hs1 ln1 rp1 rn1 rt1 =>
  if ec = 0 then
    some (0, d1, sl1, hn1, hs1, ln1, rp1, rn1, rt1, vp_updL ou 0 (Int32.toInt64 r))
  else if ec = 2 then
    some (1, d1, sl1, hn1, hs1, ln1, rp1, rn1, rt1, ou)
  else if ec = 3 then
    some (2, d1, sl1, hn1, hs1, ln1, rp1, rn1, rt1, ou)
  else none
set_option maxHeartbeats 4000000 in
set_option maxRecDepth 100000 in
theorem mL_openAll (l : Launch) (hfl : l.stackTraces = false) (G : va_G) (cy : Nat → ClassId) (g : Nat) (b : Nat → Nat → Nat) (o : Nat) (d : bw_A2) (t : bw_A2) (sl : bw_A3) (hn : Int32) (hs : Int32) (cs : bw_A1) (ln : Int32) (rp : Int32) (rn : Int32) (rt : Int32) (ou : Nat → Int64) (rk : Int32) (d' : bw_A2) (sl' : bw_A3) (hn' : Int32) (hs' : Int32) (ln' : Int32) (rp' : Int32) (rn' : Int32) (rt' : Int32) (ou' : (Nat → Int64)) (h : fL_openAll d sl hn hs cs ln rp rn rt ou = some (rk, d', sl', hn', hs', ln', rp', rn', rt', ou')) : bw_MH l yL_openAll cL_openAll 3 (some .int) [(0, 8, 11, 13), (0, 8, 14, 15)] 7 124 1 G cy g [.ref (b 8 5), .ref o] ((bw_xW cy b d t sl hn hs cs ln rp rn rt) ++ (bw_oW cy o ou ++ [])) (some (.int rk)) ((bw_xW cy b d' t sl' hn' hs' cs ln' rp' rn' rt') ++ (bw_oW cy o ou' ++ [])) := by
  refine bw_ofWH (by decide +kernel) RL rfl (Nat.le_of_ble_eq_true rfl) ?_
  intro p e s m below meth c ls S hr hlocks ht hK hZ hI hl
  have hx := S.1
  have hb := S.2.1
  generalize va_A _ s.heap.size = A at hI hZ ⊢
  generalize hQ : vx_MQ below _ _ _ s 1 (6 * 1) A = Q
  have hl : lv_has ls 3 [(0, .ref (b 8 5)), (1, .ref o)] := hl
  unfold fL_openAll at h
  refine lv_aload_n hx hb dL_openAll_0 rfl (lv_at hl 1 rfl) ?_
  refine lv_iconst (v := 0) hx hb dL_openAll_1 rfl ?_
  refine lv_aload_n hx hb dL_openAll_2 rfl (lv_at hl 0 rfl) ?_
  obtain ⟨ec, r, d1, sl1, hn1, hs1, ln1, rp1, rn1, rt1, hc, h⟩ := bw_b10_e h
  refine bw_callVX S hK hZ hI (mX5_openAll l hfl G cy g b d t sl hn hs cs ln rp rn rt ec r d1 sl1 hn1 hs1 ln1 rp1 rn1 rt1 hc) Y_X5_openAll V_X5_openAll l_L_45 ⟨(Nat.le_of_ble_eq_true rfl), (Nat.le_of_ble_eq_true rfl)⟩ (q0 := 0) rfl rfl rfl (ws' := ((bw_xW cy b d1 t sl1 hn1 hs1 cs ln1 rp1 rn1 rt1) ++ (bw_oW cy o ou ++ []))) (List.Perm.refl _) (List.Perm.refl _) rfl rfl hl.1 (rest := [.int 0, .ref o]) (st1 := [.int r, .int 0, .ref o]) rfl rfl (Nat.le_of_ble_eq_true rfl) dL_openAll_3 ⟨(Nat.le_of_ble_eq_true rfl), (Nat.le_of_ble_eq_true rfl)⟩ (fun h0 q ce H locs hI h1 h2 h3 => ?_) (fun h0 H locs hI => ?_)
  · rw [if_neg h0] at h
    by_cases c0 : ec = 2
    · subst c0
      rw [if_pos rfl] at h
      refine bw_catch (E := 2) S hZ ht [] (0, 8, 11, 13) [(0, 8, 14, 15)] rfl (by decide) (fun z hz => absurd hz List.not_mem_nil) (by decide) (by decide) cl_13 h1 h2 h3 ?_
      refine lv_astore_n (lv' := [(2, .ref q), (0, .ref (b 8 5)), (1, .ref o)]) hx hb dL_openAll_11 rfl hl (by decide) rfl (fun ls hl => ?_)
      refine lv_iconst (v := 1) hx hb dL_openAll_12 rfl ?_
      exact bw_iretH (dd := (d1, sl1, hn1, hs1, ln1, rp1, rn1, rt1, ou)) (rr := (rk, d', sl', hn', hs', ln', rp', rn', rt', ou')) S hr hlocks h (fun q : bw_A2 × bw_A3 × Int32 × Int32 × Int32 × Int32 × Int32 × Int32 × (Nat → Int64) => ((bw_xW cy b q.1 t q.2.1 q.2.2.1 q.2.2.2.1 cs q.2.2.2.2.1 q.2.2.2.2.2.1 q.2.2.2.2.2.2.1 q.2.2.2.2.2.2.2.1) ++ (bw_oW cy o q.2.2.2.2.2.2.2.2 ++ []))) hI (Nat.le_of_ble_eq_true rfl) (Nat.le_of_ble_eq_true rfl) dL_openAll_13 hQ
    rw [if_neg c0] at h
    by_cases c1 : ec = 3
    · subst c1
      rw [if_pos rfl] at h
      refine bw_catch (E := 3) S hZ ht [(0, 8, 11, 13)] (0, 8, 14, 15) [] rfl (by decide) (List.forall_mem_cons.mpr ⟨⟨by decide, 2, by decide, by decide, by decide, cl_13⟩, fun z hz => absurd hz List.not_mem_nil⟩) (by decide) (by decide) cl_15 h1 h2 h3 ?_
      refine lv_astore_n (lv' := [(2, .ref q), (0, .ref (b 8 5)), (1, .ref o)]) hx hb dL_openAll_14 rfl hl (by decide) rfl (fun ls hl => ?_)
      refine lv_iconst (v := 2) hx hb dL_openAll_15 rfl ?_
      exact bw_iretH (dd := (d1, sl1, hn1, hs1, ln1, rp1, rn1, rt1, ou)) (rr := (rk, d', sl', hn', hs', ln', rp', rn', rt', ou')) S hr hlocks h (fun q : bw_A2 × bw_A3 × Int32 × Int32 × Int32 × Int32 × Int32 × Int32 × (Nat → Int64) => ((bw_xW cy b q.1 t q.2.1 q.2.2.1 q.2.2.2.1 cs q.2.2.2.2.1 q.2.2.2.2.2.1 q.2.2.2.2.2.2.1 q.2.2.2.2.2.2.2.1) ++ (bw_oW cy o q.2.2.2.2.2.2.2.2 ++ []))) hI (Nat.le_of_ble_eq_true rfl) (Nat.le_of_ble_eq_true rfl) dL_openAll_16 hQ
    rw [if_neg c1] at h
    exact bw_none h
  rw [if_pos h0] at h
  refine lv_i2l hx hb dL_openAll_6 rfl ?_
  refine bw_last hx hb hK hI 94 (ws' := ((bw_xW cy b d1 t sl1 hn1 hs1 cs ln1 rp1 rn1 rt1) ++ (bw_oW cy o (vp_updL ou 0 (Int32.toInt64 r)) ++ []))) (by decide) rfl rfl dL_openAll_7 (fun H locs hI => ?_)
  refine lv_goto (tgt := 17) hx hb dL_openAll_8 (by decide) ?_
  refine lv_iconst (v := 0) hx hb dL_openAll_17 rfl ?_
  exact bw_iretH (dd := (d1, sl1, hn1, hs1, ln1, rp1, rn1, rt1, vp_updL ou 0 (Int32.toInt64 r))) (rr := (rk, d', sl', hn', hs', ln', rp', rn', rt', ou')) S hr hlocks h (fun q : bw_A2 × bw_A3 × Int32 × Int32 × Int32 × Int32 × Int32 × Int32 × (Nat → Int64) => ((bw_xW cy b q.1 t q.2.1 q.2.2.1 q.2.2.2.1 cs q.2.2.2.2.1 q.2.2.2.2.2.1 q.2.2.2.2.2.2.1 q.2.2.2.2.2.2.2.1) ++ (bw_oW cy o q.2.2.2.2.2.2.2.2 ++ []))) hI (Nat.le_of_ble_eq_true rfl) (Nat.le_of_ble_eq_true rfl) dL_openAll_18 hQ
set_option maxRecDepth 100000 in
theorem Y_L_openAll : bw_YH yL_openAll cL_openAll 3 (some .int) [(0, 8, 11, 13), (0, 8, 14, 15)] 2 := ⟨bw_memT 638 rfl rfl, bw_memT 0 rfl rfl, bw_memT 637 rfl rfl, ⟨by decide +kernel, by decide +kernel⟩, by decide +kernel⟩
set_option maxRecDepth 100000 in
theorem l_L_49 : (Jvm.Cond.methodLink "BufferLoansLaw" (49 : Nat) ({ cls := "BufferLoans", name := "undo", desc := "()I" } : Jvm.MethodName)) ∈ bw_L := bw_memT 665 rfl rfl
def fL_undo (d : bw_A2) (sl : bw_A3) (hn : Int32) (hs : Int32) (ou : Nat → Int64) : Option (Int32 × bw_A2 × Int32 × Int32 × (Nat → Int64)) :=
  bw_b5 (fX5_undo d sl hn hs) fun ec r d1 hn1 hs1 =>
  if ec = 0 then
    some (0, d1, hn1, hs1, vp_updL ou 0 (Int32.toInt64 r))
  else if ec = 3 then
    some (1, d1, hn1, hs1, ou)
  else none
set_option maxHeartbeats 4000000 in
set_option maxRecDepth 100000 in
theorem mL_undo (l : Launch) (hfl : l.stackTraces = false) (G : va_G) (cy : Nat → ClassId) (g : Nat) (b : Nat → Nat → Nat) (o : Nat) (d : bw_A2) (t : bw_A2) (sl : bw_A3) (hn : Int32) (hs : Int32) (cs : bw_A1) (ln : Int32) (rp : Int32) (rn : Int32) (rt : Int32) (ou : Nat → Int64) (rk : Int32) (d' : bw_A2) (hn' : Int32) (hs' : Int32) (ou' : (Nat → Int64)) (h : fL_undo d sl hn hs ou = some (rk, d', hn', hs', ou')) : bw_MH l yL_undo cL_undo 3 (some .int) [(0, 8, 11, 15)] 7 109 1 G cy g [.ref (b 8 5), .ref o] ((bw_xW cy b d t sl hn hs cs ln rp rn rt) ++ (bw_oW cy o ou ++ [])) (some (.int rk)) ((bw_xW cy b d' t sl hn' hs' cs ln rp rn rt) ++ (bw_oW cy o ou' ++ [])) := by
  refine bw_ofWH (by decide +kernel) RL rfl (Nat.le_of_ble_eq_true rfl) ?_
  intro p e s m below meth c ls S hr hlocks ht hK hZ hI hl
  have hx := S.1
  have hb := S.2.1
  generalize va_A _ s.heap.size = A at hI hZ ⊢
  generalize hQ : vx_MQ below _ _ _ s 1 (6 * 1) A = Q
  have hl : lv_has ls 3 [(0, .ref (b 8 5)), (1, .ref o)] := hl
  unfold fL_undo at h
  refine lv_aload_n hx hb dL_undo_0 rfl (lv_at hl 1 rfl) ?_
  refine lv_iconst (v := 0) hx hb dL_undo_1 rfl ?_
  refine lv_aload_n hx hb dL_undo_2 rfl (lv_at hl 0 rfl) ?_
  obtain ⟨ec, r, d1, hn1, hs1, hc, h⟩ := bw_b5_e h
  refine bw_callVX S hK hZ hI (mX5_undo l hfl G cy g b d t sl hn hs cs ln rp rn rt ec r d1 hn1 hs1 hc) Y_X5_undo V_X5_undo l_L_49 ⟨(Nat.le_of_ble_eq_true rfl), (Nat.le_of_ble_eq_true rfl)⟩ (q0 := 0) rfl rfl rfl (ws' := ((bw_xW cy b d1 t sl hn1 hs1 cs ln rp rn rt) ++ (bw_oW cy o ou ++ []))) (List.Perm.refl _) (List.Perm.refl _) rfl rfl hl.1 (rest := [.int 0, .ref o]) (st1 := [.int r, .int 0, .ref o]) rfl rfl (Nat.le_of_ble_eq_true rfl) dL_undo_3 ⟨(Nat.le_of_ble_eq_true rfl), (Nat.le_of_ble_eq_true rfl)⟩ (fun h0 q ce H locs hI h1 h2 h3 => ?_) (fun h0 H locs hI => ?_)
  · rw [if_neg h0] at h
    by_cases c0 : ec = 3
    · subst c0
      rw [if_pos rfl] at h
      refine bw_catch (E := 3) S hZ ht [] (0, 8, 11, 15) [] rfl (by decide) (fun z hz => absurd hz List.not_mem_nil) (by decide) (by decide) cl_15 h1 h2 h3 ?_
      refine lv_astore_n (lv' := [(2, .ref q), (0, .ref (b 8 5)), (1, .ref o)]) hx hb dL_undo_11 rfl hl (by decide) rfl (fun ls hl => ?_)
      refine lv_iconst (v := 1) hx hb dL_undo_12 rfl ?_
      exact bw_iretH (dd := (d1, hn1, hs1, ou)) (rr := (rk, d', hn', hs', ou')) S hr hlocks h (fun q : bw_A2 × Int32 × Int32 × (Nat → Int64) => ((bw_xW cy b q.1 t sl q.2.1 q.2.2.1 cs ln rp rn rt) ++ (bw_oW cy o q.2.2.2 ++ []))) hI (Nat.le_of_ble_eq_true rfl) (Nat.le_of_ble_eq_true rfl) dL_undo_13 hQ
    rw [if_neg c0] at h
    exact bw_none h
  rw [if_pos h0] at h
  refine lv_i2l hx hb dL_undo_6 rfl ?_
  refine bw_last hx hb hK hI 94 (ws' := ((bw_xW cy b d1 t sl hn1 hs1 cs ln rp rn rt) ++ (bw_oW cy o (vp_updL ou 0 (Int32.toInt64 r)) ++ []))) (by decide) rfl rfl dL_undo_7 (fun H locs hI => ?_)
  refine lv_goto (tgt := 14) hx hb dL_undo_8 (by decide) ?_
  refine lv_iconst (v := 0) hx hb dL_undo_14 rfl ?_
  exact bw_iretH (dd := (d1, hn1, hs1, vp_updL ou 0 (Int32.toInt64 r))) (rr := (rk, d', hn', hs', ou')) S hr hlocks h (fun q : bw_A2 × Int32 × Int32 × (Nat → Int64) => ((bw_xW cy b q.1 t sl q.2.1 q.2.2.1 cs ln rp rn rt) ++ (bw_oW cy o q.2.2.2 ++ []))) hI (Nat.le_of_ble_eq_true rfl) (Nat.le_of_ble_eq_true rfl) dL_undo_15 hQ
set_option maxRecDepth 100000 in
theorem Y_L_undo : bw_YH yL_undo cL_undo 3 (some .int) [(0, 8, 11, 15)] 2 := ⟨bw_memT 664 rfl rfl, bw_memT 0 rfl rfl, bw_memT 663 rfl rfl, ⟨by decide +kernel, by decide +kernel⟩, by decide +kernel⟩
set_option maxRecDepth 100000 in
theorem l_L_52 : (Jvm.Cond.methodLink "BufferLoansLaw" (52 : Nat) ({ cls := "BufferLoans", name := "project", desc := "(II)I" } : Jvm.MethodName)) ∈ bw_L := bw_memT 678 rfl rfl
def fL_project (d : bw_A2) (p1 : Int32) (p2 : Int32) (ou : Nat → Int64) : Option (Int32 × (Nat → Int64)) :=
  bw_b2 (fX5_project d p1 p2) fun ec r =>
  if ec = 0 then
    some (0, vp_updL ou 0 (Int32.toInt64 r))
  else if ec = 1 then
    some (1, ou)
  else if ec = 2 then
    some (2, ou)
  else none
set_option maxHeartbeats 4000000 in
set_option maxRecDepth 100000 in
theorem mL_project (l : Launch) (hfl : l.stackTraces = false) (G : va_G) (cy : Nat → ClassId) (g : Nat) (b : Nat → Nat → Nat) (o : Nat) (d : bw_A2) (t : bw_A2) (sl : bw_A3) (hn : Int32) (hs : Int32) (cs : bw_A1) (ln : Int32) (rp : Int32) (rn : Int32) (rt : Int32) (p1 : Int32) (p2 : Int32) (ou : Nat → Int64) (rk : Int32) (ou' : (Nat → Int64)) (h : fL_project d p1 p2 ou = some (rk, ou')) : bw_MH l yL_project cL_project 5 (some .int) [(0, 10, 13, 20), (0, 10, 17, 13)] 8 125 2 G cy g [.ref (b 8 5), .int p1, .int p2, .ref o] ((bw_xW cy b d t sl hn hs cs ln rp rn rt) ++ (bw_oW cy o ou ++ [])) (some (.int rk)) ((bw_xW cy b d t sl hn hs cs ln rp rn rt) ++ (bw_oW cy o ou' ++ [])) := by
  refine bw_ofWH (by decide +kernel) RL rfl (Nat.le_of_ble_eq_true rfl) ?_
  intro p e s m below meth c ls S hr hlocks ht hK hZ hI hl
  have hx := S.1
  have hb := S.2.1
  generalize va_A _ s.heap.size = A at hI hZ ⊢
  generalize hQ : vx_MQ below _ _ _ s 2 (6 * 2) A = Q
  have hl : lv_has ls 5 [(0, .ref (b 8 5)), (1, .int p1), (2, .int p2), (3, .ref o)] := hl
  unfold fL_project at h
  refine lv_aload_n hx hb dL_project_0 rfl (lv_at hl 3 rfl) ?_
  refine lv_iconst (v := 0) hx hb dL_project_1 rfl ?_
  refine lv_aload_n hx hb dL_project_2 rfl (lv_at hl 0 rfl) ?_
  refine lv_iload_n hx hb dL_project_3 rfl (lv_at hl 1 rfl) ?_
  refine lv_iload_n hx hb dL_project_4 rfl (lv_at hl 2 rfl) ?_
  obtain ⟨ec, r, hc, h⟩ := bw_b2_e h
  refine bw_callVX S hK hZ hI (mX5_project l hfl G cy g b d t sl hn hs cs ln rp rn rt p1 p2 ec r hc) Y_X5_project V_X5_project l_L_52 ⟨(Nat.le_of_ble_eq_true rfl), (Nat.le_of_ble_eq_true rfl)⟩ (q0 := 0) rfl rfl rfl (ws' := ((bw_xW cy b d t sl hn hs cs ln rp rn rt) ++ (bw_oW cy o ou ++ []))) (List.Perm.refl _) (List.Perm.refl _) rfl rfl hl.1 (rest := [.int 0, .ref o]) (st1 := [.int r, .int 0, .ref o]) rfl rfl (Nat.le_of_ble_eq_true rfl) dL_project_5 ⟨(Nat.le_of_ble_eq_true rfl), (Nat.le_of_ble_eq_true rfl)⟩ (fun h0 q ce H locs hI h1 h2 h3 => ?_) (fun h0 H locs hI => ?_)
  · rw [if_neg h0] at h
    by_cases c0 : ec = 1
    · subst c0
      rw [if_pos rfl] at h
      refine bw_catch (E := 1) S hZ ht [] (0, 10, 13, 20) [(0, 10, 17, 13)] rfl (by decide) (fun z hz => absurd hz List.not_mem_nil) (by decide) (by decide) cl_20 h1 h2 h3 ?_
      refine lv_astore (lv' := [(4, .ref q), (0, .ref (b 8 5)), (1, .int p1), (2, .int p2), (3, .ref o)]) hx hb dL_project_13 hl (by decide) rfl (fun ls hl => ?_)
      refine lv_iconst (v := 1) hx hb dL_project_15 rfl ?_
      exact bw_iretH (dd := (ou)) (rr := (rk, ou')) S hr hlocks h (fun q : (Nat → Int64) => ((bw_xW cy b d t sl hn hs cs ln rp rn rt) ++ (bw_oW cy o q ++ []))) hI (Nat.le_of_ble_eq_true rfl) (Nat.le_of_ble_eq_true rfl) dL_project_16 hQ
    rw [if_neg c0] at h
    by_cases c1 : ec = 2
    · subst c1
      rw [if_pos rfl] at h
      refine bw_catch (E := 2) S hZ ht [(0, 10, 13, 20)] (0, 10, 17, 13) [] rfl (by decide) (List.forall_mem_cons.mpr ⟨⟨by decide, 1, by decide, by decide, by decide, cl_20⟩, fun z hz => absurd hz List.not_mem_nil⟩) (by decide) (by decide) cl_13 h1 h2 h3 ?_
      refine lv_astore (lv' := [(4, .ref q), (0, .ref (b 8 5)), (1, .int p1), (2, .int p2), (3, .ref o)]) hx hb dL_project_17 hl (by decide) rfl (fun ls hl => ?_)
      refine lv_iconst (v := 2) hx hb dL_project_19 rfl ?_
      exact bw_iretH (dd := (ou)) (rr := (rk, ou')) S hr hlocks h (fun q : (Nat → Int64) => ((bw_xW cy b d t sl hn hs cs ln rp rn rt) ++ (bw_oW cy o q ++ []))) hI (Nat.le_of_ble_eq_true rfl) (Nat.le_of_ble_eq_true rfl) dL_project_20 hQ
    rw [if_neg c1] at h
    exact bw_none h
  rw [if_pos h0] at h
  refine lv_i2l hx hb dL_project_8 rfl ?_
  refine bw_last hx hb hK hI 94 (ws' := ((bw_xW cy b d t sl hn hs cs ln rp rn rt) ++ (bw_oW cy o (vp_updL ou 0 (Int32.toInt64 r)) ++ []))) (by decide) rfl rfl dL_project_9 (fun H locs hI => ?_)
  refine lv_goto (tgt := 21) hx hb dL_project_10 (by decide) ?_
  refine lv_iconst (v := 0) hx hb dL_project_21 rfl ?_
  exact bw_iretH (dd := (vp_updL ou 0 (Int32.toInt64 r))) (rr := (rk, ou')) S hr hlocks h (fun q : (Nat → Int64) => ((bw_xW cy b d t sl hn hs cs ln rp rn rt) ++ (bw_oW cy o q ++ []))) hI (Nat.le_of_ble_eq_true rfl) (Nat.le_of_ble_eq_true rfl) dL_project_22 hQ
set_option maxRecDepth 100000 in
theorem Y_L_project : bw_YH yL_project cL_project 5 (some .int) [(0, 10, 13, 20), (0, 10, 17, 13)] 4 := ⟨bw_memT 677 rfl rfl, bw_memT 0 rfl rfl, bw_memT 676 rfl rfl, ⟨by decide +kernel, by decide +kernel⟩, by decide +kernel⟩
set_option maxRecDepth 100000 in
theorem l_L_55 : (Jvm.Cond.methodLink "BufferLoansLaw" (55 : Nat) ({ cls := "BufferLoans", name := "task", desc := "(III)I" } : Jvm.MethodName)) ∈ bw_L := bw_memT 686 rfl rfl
def fL_task (d : bw_A2) (p1 : Int32) (p2 : Int32) (p3 : Int32) (ou : Nat → Int64) : Option (Int32 × (Nat → Int64)) :=
  bw_b2 (fX5_task d p1 p2 p3) fun ec r =>
  if ec = 0 then
    some (0, vp_updL ou 0 (Int32.toInt64 r))
  else if ec = 1 then
    some (1, ou)
  else if ec = 2 then
    some (2, ou)
  else none
set_option maxHeartbeats 4000000 in
set_option maxRecDepth 100000 in
theorem mL_task (l : Launch) (hfl : l.stackTraces = false) (G : va_G) (cy : Nat → ClassId) (g : Nat) (b : Nat → Nat → Nat) (o : Nat) (d : bw_A2) (t : bw_A2) (sl : bw_A3) (hn : Int32) (hs : Int32) (cs : bw_A1) (ln : Int32) (rp : Int32) (rn : Int32) (rt : Int32) (p1 : Int32) (p2 : Int32) (p3 : Int32) (ou : Nat → Int64) (rk : Int32) (ou' : (Nat → Int64)) (h : fL_task d p1 p2 p3 ou = some (rk, ou')) : bw_MH l yL_task cL_task 6 (some .int) [(0, 12, 15, 20), (0, 12, 19, 13)] 8 126 2 G cy g [.ref (b 8 5), .int p1, .int p2, .int p3, .ref o] ((bw_xW cy b d t sl hn hs cs ln rp rn rt) ++ (bw_oW cy o ou ++ [])) (some (.int rk)) ((bw_xW cy b d t sl hn hs cs ln rp rn rt) ++ (bw_oW cy o ou' ++ [])) := by
  refine bw_ofWH (by decide +kernel) RL rfl (Nat.le_of_ble_eq_true rfl) ?_
  intro p e s m below meth c ls S hr hlocks ht hK hZ hI hl
  have hx := S.1
  have hb := S.2.1
  generalize va_A _ s.heap.size = A at hI hZ ⊢
  generalize hQ : vx_MQ below _ _ _ s 2 (6 * 2) A = Q
  have hl : lv_has ls 6 [(0, .ref (b 8 5)), (1, .int p1), (2, .int p2), (3, .int p3), (4, .ref o)] := hl
  unfold fL_task at h
  refine lv_aload hx hb dL_task_0 (lv_at hl 4 rfl) ?_
  refine lv_iconst (v := 0) hx hb dL_task_2 rfl ?_
  refine lv_aload_n hx hb dL_task_3 rfl (lv_at hl 0 rfl) ?_
  refine lv_iload_n hx hb dL_task_4 rfl (lv_at hl 1 rfl) ?_
  refine lv_iload_n hx hb dL_task_5 rfl (lv_at hl 2 rfl) ?_
  refine lv_iload_n hx hb dL_task_6 rfl (lv_at hl 3 rfl) ?_
  obtain ⟨ec, r, hc, h⟩ := bw_b2_e h
  refine bw_callVX S hK hZ hI (mX5_task l hfl G cy g b d t sl hn hs cs ln rp rn rt p1 p2 p3 ec r hc) Y_X5_task V_X5_task l_L_55 ⟨(Nat.le_of_ble_eq_true rfl), (Nat.le_of_ble_eq_true rfl)⟩ (q0 := 0) rfl rfl rfl (ws' := ((bw_xW cy b d t sl hn hs cs ln rp rn rt) ++ (bw_oW cy o ou ++ []))) (List.Perm.refl _) (List.Perm.refl _) rfl rfl hl.1 (rest := [.int 0, .ref o]) (st1 := [.int r, .int 0, .ref o]) rfl rfl (Nat.le_of_ble_eq_true rfl) dL_task_7 ⟨(Nat.le_of_ble_eq_true rfl), (Nat.le_of_ble_eq_true rfl)⟩ (fun h0 q ce H locs hI h1 h2 h3 => ?_) (fun h0 H locs hI => ?_)
  · rw [if_neg h0] at h
    by_cases c0 : ec = 1
    · subst c0
      rw [if_pos rfl] at h
      refine bw_catch (E := 1) S hZ ht [] (0, 12, 15, 20) [(0, 12, 19, 13)] rfl (by decide) (fun z hz => absurd hz List.not_mem_nil) (by decide) (by decide) cl_20 h1 h2 h3 ?_
      refine lv_astore (lv' := [(5, .ref q), (0, .ref (b 8 5)), (1, .int p1), (2, .int p2), (3, .int p3), (4, .ref o)]) hx hb dL_task_15 hl (by decide) rfl (fun ls hl => ?_)
      refine lv_iconst (v := 1) hx hb dL_task_17 rfl ?_
      exact bw_iretH (dd := (ou)) (rr := (rk, ou')) S hr hlocks h (fun q : (Nat → Int64) => ((bw_xW cy b d t sl hn hs cs ln rp rn rt) ++ (bw_oW cy o q ++ []))) hI (Nat.le_of_ble_eq_true rfl) (Nat.le_of_ble_eq_true rfl) dL_task_18 hQ
    rw [if_neg c0] at h
    by_cases c1 : ec = 2
    · subst c1
      rw [if_pos rfl] at h
      refine bw_catch (E := 2) S hZ ht [(0, 12, 15, 20)] (0, 12, 19, 13) [] rfl (by decide) (List.forall_mem_cons.mpr ⟨⟨by decide, 1, by decide, by decide, by decide, cl_20⟩, fun z hz => absurd hz List.not_mem_nil⟩) (by decide) (by decide) cl_13 h1 h2 h3 ?_
      refine lv_astore (lv' := [(5, .ref q), (0, .ref (b 8 5)), (1, .int p1), (2, .int p2), (3, .int p3), (4, .ref o)]) hx hb dL_task_19 hl (by decide) rfl (fun ls hl => ?_)
      refine lv_iconst (v := 2) hx hb dL_task_21 rfl ?_
      exact bw_iretH (dd := (ou)) (rr := (rk, ou')) S hr hlocks h (fun q : (Nat → Int64) => ((bw_xW cy b d t sl hn hs cs ln rp rn rt) ++ (bw_oW cy o q ++ []))) hI (Nat.le_of_ble_eq_true rfl) (Nat.le_of_ble_eq_true rfl) dL_task_22 hQ
    rw [if_neg c1] at h
    exact bw_none h
  rw [if_pos h0] at h
  refine lv_i2l hx hb dL_task_10 rfl ?_
  refine bw_last hx hb hK hI 94 (ws' := ((bw_xW cy b d t sl hn hs cs ln rp rn rt) ++ (bw_oW cy o (vp_updL ou 0 (Int32.toInt64 r)) ++ []))) (by decide) rfl rfl dL_task_11 (fun H locs hI => ?_)
  refine lv_goto (tgt := 23) hx hb dL_task_12 (by decide) ?_
  refine lv_iconst (v := 0) hx hb dL_task_23 rfl ?_
  exact bw_iretH (dd := (vp_updL ou 0 (Int32.toInt64 r))) (rr := (rk, ou')) S hr hlocks h (fun q : (Nat → Int64) => ((bw_xW cy b d t sl hn hs cs ln rp rn rt) ++ (bw_oW cy o q ++ []))) hI (Nat.le_of_ble_eq_true rfl) (Nat.le_of_ble_eq_true rfl) dL_task_24 hQ
set_option maxRecDepth 100000 in
theorem Y_L_task : bw_YH yL_task cL_task 6 (some .int) [(0, 12, 15, 20), (0, 12, 19, 13)] 5 := ⟨bw_memT 685 rfl rfl, bw_memT 0 rfl rfl, bw_memT 684 rfl rfl, ⟨by decide +kernel, by decide +kernel⟩, by decide +kernel⟩
set_option maxRecDepth 100000 in
theorem l_L_58 : (Jvm.Cond.methodLink "BufferLoansLaw" (58 : Nat) ({ cls := "BufferLoans", name := "loan", desc := "(II)I" } : Jvm.MethodName)) ∈ bw_L := bw_memT 694 rfl rfl
def fL_loan (d : bw_A2) (p1 : Int32) (p2 : Int32) (ou : Nat → Int64) : Option (Int32 × (Nat → Int64)) :=
  bw_b2 (fX5_loan d p1 p2) fun ec r =>
  if ec = 0 then
    some (0, vp_updL ou 0 (Int32.toInt64 r))
  else if ec = 1 then
    some (1, ou)
  else if ec = 2 then
    some (2, ou)
  else none
set_option maxHeartbeats 4000000 in
set_option maxRecDepth 100000 in
theorem mL_loan (l : Launch) (hfl : l.stackTraces = false) (G : va_G) (cy : Nat → ClassId) (g : Nat) (b : Nat → Nat → Nat) (o : Nat) (d : bw_A2) (t : bw_A2) (sl : bw_A3) (hn : Int32) (hs : Int32) (cs : bw_A1) (ln : Int32) (rp : Int32) (rn : Int32) (rt : Int32) (p1 : Int32) (p2 : Int32) (ou : Nat → Int64) (rk : Int32) (ou' : (Nat → Int64)) (h : fL_loan d p1 p2 ou = some (rk, ou')) : bw_MH l yL_loan cL_loan 5 (some .int) [(0, 10, 13, 20), (0, 10, 17, 13)] 7 104 1 G cy g [.ref (b 8 5), .int p1, .int p2, .ref o] ((bw_xW cy b d t sl hn hs cs ln rp rn rt) ++ (bw_oW cy o ou ++ [])) (some (.int rk)) ((bw_xW cy b d t sl hn hs cs ln rp rn rt) ++ (bw_oW cy o ou' ++ [])) := by
  refine bw_ofWH (by decide +kernel) RL rfl (Nat.le_of_ble_eq_true rfl) ?_
  intro p e s m below meth c ls S hr hlocks ht hK hZ hI hl
  have hx := S.1
  have hb := S.2.1
  generalize va_A _ s.heap.size = A at hI hZ ⊢
  generalize hQ : vx_MQ below _ _ _ s 1 (6 * 1) A = Q
  have hl : lv_has ls 5 [(0, .ref (b 8 5)), (1, .int p1), (2, .int p2), (3, .ref o)] := hl
  unfold fL_loan at h
  refine lv_aload_n hx hb dL_loan_0 rfl (lv_at hl 3 rfl) ?_
  refine lv_iconst (v := 0) hx hb dL_loan_1 rfl ?_
  refine lv_aload_n hx hb dL_loan_2 rfl (lv_at hl 0 rfl) ?_
  refine lv_iload_n hx hb dL_loan_3 rfl (lv_at hl 1 rfl) ?_
  refine lv_iload_n hx hb dL_loan_4 rfl (lv_at hl 2 rfl) ?_
  obtain ⟨ec, r, hc, h⟩ := bw_b2_e h
  refine bw_callVX S hK hZ hI (mX5_loan l hfl G cy g b d t sl hn hs cs ln rp rn rt p1 p2 ec r hc) Y_X5_loan V_X5_loan l_L_58 ⟨(Nat.le_of_ble_eq_true rfl), (Nat.le_of_ble_eq_true rfl)⟩ (q0 := 0) rfl rfl rfl (ws' := ((bw_xW cy b d t sl hn hs cs ln rp rn rt) ++ (bw_oW cy o ou ++ []))) (List.Perm.refl _) (List.Perm.refl _) rfl rfl hl.1 (rest := [.int 0, .ref o]) (st1 := [.int r, .int 0, .ref o]) rfl rfl (Nat.le_of_ble_eq_true rfl) dL_loan_5 ⟨(Nat.le_of_ble_eq_true rfl), (Nat.le_of_ble_eq_true rfl)⟩ (fun h0 q ce H locs hI h1 h2 h3 => ?_) (fun h0 H locs hI => ?_)
  · rw [if_neg h0] at h
    by_cases c0 : ec = 1
    · subst c0
      rw [if_pos rfl] at h
      refine bw_catch (E := 1) S hZ ht [] (0, 10, 13, 20) [(0, 10, 17, 13)] rfl (by decide) (fun z hz => absurd hz List.not_mem_nil) (by decide) (by decide) cl_20 h1 h2 h3 ?_
      refine lv_astore (lv' := [(4, .ref q), (0, .ref (b 8 5)), (1, .int p1), (2, .int p2), (3, .ref o)]) hx hb dL_loan_13 hl (by decide) rfl (fun ls hl => ?_)
      refine lv_iconst (v := 1) hx hb dL_loan_15 rfl ?_
      exact bw_iretH (dd := (ou)) (rr := (rk, ou')) S hr hlocks h (fun q : (Nat → Int64) => ((bw_xW cy b d t sl hn hs cs ln rp rn rt) ++ (bw_oW cy o q ++ []))) hI (Nat.le_of_ble_eq_true rfl) (Nat.le_of_ble_eq_true rfl) dL_loan_16 hQ
    rw [if_neg c0] at h
    by_cases c1 : ec = 2
    · subst c1
      rw [if_pos rfl] at h
      refine bw_catch (E := 2) S hZ ht [(0, 10, 13, 20)] (0, 10, 17, 13) [] rfl (by decide) (List.forall_mem_cons.mpr ⟨⟨by decide, 1, by decide, by decide, by decide, cl_20⟩, fun z hz => absurd hz List.not_mem_nil⟩) (by decide) (by decide) cl_13 h1 h2 h3 ?_
      refine lv_astore (lv' := [(4, .ref q), (0, .ref (b 8 5)), (1, .int p1), (2, .int p2), (3, .ref o)]) hx hb dL_loan_17 hl (by decide) rfl (fun ls hl => ?_)
      refine lv_iconst (v := 2) hx hb dL_loan_19 rfl ?_
      exact bw_iretH (dd := (ou)) (rr := (rk, ou')) S hr hlocks h (fun q : (Nat → Int64) => ((bw_xW cy b d t sl hn hs cs ln rp rn rt) ++ (bw_oW cy o q ++ []))) hI (Nat.le_of_ble_eq_true rfl) (Nat.le_of_ble_eq_true rfl) dL_loan_20 hQ
    rw [if_neg c1] at h
    exact bw_none h
  rw [if_pos h0] at h
  refine lv_i2l hx hb dL_loan_8 rfl ?_
  refine bw_last hx hb hK hI 94 (ws' := ((bw_xW cy b d t sl hn hs cs ln rp rn rt) ++ (bw_oW cy o (vp_updL ou 0 (Int32.toInt64 r)) ++ []))) (by decide) rfl rfl dL_loan_9 (fun H locs hI => ?_)
  refine lv_goto (tgt := 21) hx hb dL_loan_10 (by decide) ?_
  refine lv_iconst (v := 0) hx hb dL_loan_21 rfl ?_
  exact bw_iretH (dd := (vp_updL ou 0 (Int32.toInt64 r))) (rr := (rk, ou')) S hr hlocks h (fun q : (Nat → Int64) => ((bw_xW cy b d t sl hn hs cs ln rp rn rt) ++ (bw_oW cy o q ++ []))) hI (Nat.le_of_ble_eq_true rfl) (Nat.le_of_ble_eq_true rfl) dL_loan_22 hQ
set_option maxRecDepth 100000 in
theorem Y_L_loan : bw_YH yL_loan cL_loan 5 (some .int) [(0, 10, 13, 20), (0, 10, 17, 13)] 4 := ⟨bw_memT 693 rfl rfl, bw_memT 0 rfl rfl, bw_memT 692 rfl rfl, ⟨by decide +kernel, by decide +kernel⟩, by decide +kernel⟩
set_option maxRecDepth 100000 in
theorem l_L_61 : (Jvm.Cond.methodLink "BufferLoansLaw" (61 : Nat) ({ cls := "BufferLoans", name := "owed", desc := "(II)I" } : Jvm.MethodName)) ∈ bw_L := bw_memT 703 rfl rfl
def fL_owed (d : bw_A2) (p1 : Int32) (p2 : Int32) (ou : Nat → Int64) : Option (Int32 × (Nat → Int64)) :=
  bw_b2 (fX5_owed d p1 p2) fun ec r =>
  if ec = 0 then
    some (0, vp_updL ou 0 (Int32.toInt64 r))
  else if ec = 1 then
    some (1, ou)
  else none
set_option maxHeartbeats 4000000 in
set_option maxRecDepth 100000 in
theorem mL_owed (l : Launch) (hfl : l.stackTraces = false) (G : va_G) (cy : Nat → ClassId) (g : Nat) (b : Nat → Nat → Nat) (o : Nat) (d : bw_A2) (t : bw_A2) (sl : bw_A3) (hn : Int32) (hs : Int32) (cs : bw_A1) (ln : Int32) (rp : Int32) (rn : Int32) (rt : Int32) (p1 : Int32) (p2 : Int32) (ou : Nat → Int64) (rk : Int32) (ou' : (Nat → Int64)) (h : fL_owed d p1 p2 ou = some (rk, ou')) : bw_MH l yL_owed cL_owed 5 (some .int) [(0, 10, 13, 20)] 8 125 3 G cy g [.ref (b 8 5), .int p1, .int p2, .ref o] ((bw_xW cy b d t sl hn hs cs ln rp rn rt) ++ (bw_oW cy o ou ++ [])) (some (.int rk)) ((bw_xW cy b d t sl hn hs cs ln rp rn rt) ++ (bw_oW cy o ou' ++ [])) := by
  refine bw_ofWH (by decide +kernel) RL rfl (Nat.le_of_ble_eq_true rfl) ?_
  intro p e s m below meth c ls S hr hlocks ht hK hZ hI hl
  have hx := S.1
  have hb := S.2.1
  generalize va_A _ s.heap.size = A at hI hZ ⊢
  generalize hQ : vx_MQ below _ _ _ s 3 (6 * 3) A = Q
  have hl : lv_has ls 5 [(0, .ref (b 8 5)), (1, .int p1), (2, .int p2), (3, .ref o)] := hl
  unfold fL_owed at h
  refine lv_aload_n hx hb dL_owed_0 rfl (lv_at hl 3 rfl) ?_
  refine lv_iconst (v := 0) hx hb dL_owed_1 rfl ?_
  refine lv_aload_n hx hb dL_owed_2 rfl (lv_at hl 0 rfl) ?_
  refine lv_iload_n hx hb dL_owed_3 rfl (lv_at hl 1 rfl) ?_
  refine lv_iload_n hx hb dL_owed_4 rfl (lv_at hl 2 rfl) ?_
  obtain ⟨ec, r, hc, h⟩ := bw_b2_e h
  refine bw_callVX S hK hZ hI (mX5_owed l hfl G cy g b d t sl hn hs cs ln rp rn rt p1 p2 ec r hc) Y_X5_owed V_X5_owed l_L_61 ⟨(Nat.le_of_ble_eq_true rfl), (Nat.le_of_ble_eq_true rfl)⟩ (q0 := 0) rfl rfl rfl (ws' := ((bw_xW cy b d t sl hn hs cs ln rp rn rt) ++ (bw_oW cy o ou ++ []))) (List.Perm.refl _) (List.Perm.refl _) rfl rfl hl.1 (rest := [.int 0, .ref o]) (st1 := [.int r, .int 0, .ref o]) rfl rfl (Nat.le_of_ble_eq_true rfl) dL_owed_5 ⟨(Nat.le_of_ble_eq_true rfl), (Nat.le_of_ble_eq_true rfl)⟩ (fun h0 q ce H locs hI h1 h2 h3 => ?_) (fun h0 H locs hI => ?_)
  · rw [if_neg h0] at h
    by_cases c0 : ec = 1
    · subst c0
      rw [if_pos rfl] at h
      refine bw_catch (E := 1) S hZ ht [] (0, 10, 13, 20) [] rfl (by decide) (fun z hz => absurd hz List.not_mem_nil) (by decide) (by decide) cl_20 h1 h2 h3 ?_
      refine lv_astore (lv' := [(4, .ref q), (0, .ref (b 8 5)), (1, .int p1), (2, .int p2), (3, .ref o)]) hx hb dL_owed_13 hl (by decide) rfl (fun ls hl => ?_)
      refine lv_iconst (v := 1) hx hb dL_owed_15 rfl ?_
      exact bw_iretH (dd := (ou)) (rr := (rk, ou')) S hr hlocks h (fun q : (Nat → Int64) => ((bw_xW cy b d t sl hn hs cs ln rp rn rt) ++ (bw_oW cy o q ++ []))) hI (Nat.le_of_ble_eq_true rfl) (Nat.le_of_ble_eq_true rfl) dL_owed_16 hQ
    rw [if_neg c0] at h
    exact bw_none h
  rw [if_pos h0] at h
  refine lv_i2l hx hb dL_owed_8 rfl ?_
  refine bw_last hx hb hK hI 94 (ws' := ((bw_xW cy b d t sl hn hs cs ln rp rn rt) ++ (bw_oW cy o (vp_updL ou 0 (Int32.toInt64 r)) ++ []))) (by decide) rfl rfl dL_owed_9 (fun H locs hI => ?_)
  refine lv_goto (tgt := 17) hx hb dL_owed_10 (by decide) ?_
  refine lv_iconst (v := 0) hx hb dL_owed_17 rfl ?_
  exact bw_iretH (dd := (vp_updL ou 0 (Int32.toInt64 r))) (rr := (rk, ou')) S hr hlocks h (fun q : (Nat → Int64) => ((bw_xW cy b d t sl hn hs cs ln rp rn rt) ++ (bw_oW cy o q ++ []))) hI (Nat.le_of_ble_eq_true rfl) (Nat.le_of_ble_eq_true rfl) dL_owed_18 hQ
set_option maxRecDepth 100000 in
theorem Y_L_owed : bw_YH yL_owed cL_owed 5 (some .int) [(0, 10, 13, 20)] 4 := ⟨bw_memT 702 rfl rfl, bw_memT 0 rfl rfl, bw_memT 701 rfl rfl, ⟨by decide +kernel, by decide +kernel⟩, by decide +kernel⟩
set_option maxRecDepth 100000 in
theorem l_L_64 : (Jvm.Cond.methodLink "BufferLoansLaw" (64 : Nat) ({ cls := "BufferLoans", name := "lender", desc := "(II)I" } : Jvm.MethodName)) ∈ bw_L := bw_memT 710 rfl rfl
def fL_lender (d : bw_A2) (p1 : Int32) (p2 : Int32) (ou : Nat → Int64) : Option (Int32 × bw_A2 × (Nat → Int64)) :=
  bw_b3 (fX5_lender d p1 p2) fun ec r d1 =>
  if ec = 0 then
    some (0, d1, vp_updL ou 0 (Int32.toInt64 r))
  else if ec = 1 then
    some (1, d1, ou)
  else if ec = 2 then
    some (2, d1, ou)
  else none
set_option maxHeartbeats 4000000 in
set_option maxRecDepth 100000 in
theorem mL_lender (l : Launch) (hfl : l.stackTraces = false) (G : va_G) (cy : Nat → ClassId) (g : Nat) (b : Nat → Nat → Nat) (o : Nat) (d : bw_A2) (t : bw_A2) (sl : bw_A3) (hn : Int32) (hs : Int32) (cs : bw_A1) (ln : Int32) (rp : Int32) (rn : Int32) (rt : Int32) (p1 : Int32) (p2 : Int32) (ou : Nat → Int64) (rk : Int32) (d' : bw_A2) (ou' : (Nat → Int64)) (h : fL_lender d p1 p2 ou = some (rk, d', ou')) : bw_MH l yL_lender cL_lender 5 (some .int) [(0, 10, 13, 20), (0, 10, 17, 13)] 8 125 2 G cy g [.ref (b 8 5), .int p1, .int p2, .ref o] ((bw_xW cy b d t sl hn hs cs ln rp rn rt) ++ (bw_oW cy o ou ++ [])) (some (.int rk)) ((bw_xW cy b d' t sl hn hs cs ln rp rn rt) ++ (bw_oW cy o ou' ++ [])) := by
  refine bw_ofWH (by decide +kernel) RL rfl (Nat.le_of_ble_eq_true rfl) ?_
  intro p e s m below meth c ls S hr hlocks ht hK hZ hI hl
  have hx := S.1
  have hb := S.2.1
  generalize va_A _ s.heap.size = A at hI hZ ⊢
  generalize hQ : vx_MQ below _ _ _ s 2 (6 * 2) A = Q
  have hl : lv_has ls 5 [(0, .ref (b 8 5)), (1, .int p1), (2, .int p2), (3, .ref o)] := hl
  unfold fL_lender at h
  refine lv_aload_n hx hb dL_lender_0 rfl (lv_at hl 3 rfl) ?_
  refine lv_iconst (v := 0) hx hb dL_lender_1 rfl ?_
  refine lv_aload_n hx hb dL_lender_2 rfl (lv_at hl 0 rfl) ?_
  refine lv_iload_n hx hb dL_lender_3 rfl (lv_at hl 1 rfl) ?_
  refine lv_iload_n hx hb dL_lender_4 rfl (lv_at hl 2 rfl) ?_
  obtain ⟨ec, r, d1, hc, h⟩ := bw_b3_e h
  refine bw_callVX S hK hZ hI (mX5_lender l hfl G cy g b d t sl hn hs cs ln rp rn rt p1 p2 ec r d1 hc) Y_X5_lender V_X5_lender l_L_64 ⟨(Nat.le_of_ble_eq_true rfl), (Nat.le_of_ble_eq_true rfl)⟩ (q0 := 0) rfl rfl rfl (ws' := ((bw_xW cy b d1 t sl hn hs cs ln rp rn rt) ++ (bw_oW cy o ou ++ []))) (List.Perm.refl _) (List.Perm.refl _) rfl rfl hl.1 (rest := [.int 0, .ref o]) (st1 := [.int r, .int 0, .ref o]) rfl rfl (Nat.le_of_ble_eq_true rfl) dL_lender_5 ⟨(Nat.le_of_ble_eq_true rfl), (Nat.le_of_ble_eq_true rfl)⟩ (fun h0 q ce H locs hI h1 h2 h3 => ?_) (fun h0 H locs hI => ?_)
  · rw [if_neg h0] at h
    by_cases c0 : ec = 1
    · subst c0
      rw [if_pos rfl] at h
      refine bw_catch (E := 1) S hZ ht [] (0, 10, 13, 20) [(0, 10, 17, 13)] rfl (by decide) (fun z hz => absurd hz List.not_mem_nil) (by decide) (by decide) cl_20 h1 h2 h3 ?_
      refine lv_astore (lv' := [(4, .ref q), (0, .ref (b 8 5)), (1, .int p1), (2, .int p2), (3, .ref o)]) hx hb dL_lender_13 hl (by decide) rfl (fun ls hl => ?_)
      refine lv_iconst (v := 1) hx hb dL_lender_15 rfl ?_
      exact bw_iretH (dd := (d1, ou)) (rr := (rk, d', ou')) S hr hlocks h (fun q : bw_A2 × (Nat → Int64) => ((bw_xW cy b q.1 t sl hn hs cs ln rp rn rt) ++ (bw_oW cy o q.2 ++ []))) hI (Nat.le_of_ble_eq_true rfl) (Nat.le_of_ble_eq_true rfl) dL_lender_16 hQ
    rw [if_neg c0] at h
    by_cases c1 : ec = 2
    · subst c1
      rw [if_pos rfl] at h
      refine bw_catch (E := 2) S hZ ht [(0, 10, 13, 20)] (0, 10, 17, 13) [] rfl (by decide) (List.forall_mem_cons.mpr ⟨⟨by decide, 1, by decide, by decide, by decide, cl_20⟩, fun z hz => absurd hz List.not_mem_nil⟩) (by decide) (by decide) cl_13 h1 h2 h3 ?_
      refine lv_astore (lv' := [(4, .ref q), (0, .ref (b 8 5)), (1, .int p1), (2, .int p2), (3, .ref o)]) hx hb dL_lender_17 hl (by decide) rfl (fun ls hl => ?_)
      refine lv_iconst (v := 2) hx hb dL_lender_19 rfl ?_
      exact bw_iretH (dd := (d1, ou)) (rr := (rk, d', ou')) S hr hlocks h (fun q : bw_A2 × (Nat → Int64) => ((bw_xW cy b q.1 t sl hn hs cs ln rp rn rt) ++ (bw_oW cy o q.2 ++ []))) hI (Nat.le_of_ble_eq_true rfl) (Nat.le_of_ble_eq_true rfl) dL_lender_20 hQ
    rw [if_neg c1] at h
    exact bw_none h
  rw [if_pos h0] at h
  refine lv_i2l hx hb dL_lender_8 rfl ?_
  refine bw_last hx hb hK hI 94 (ws' := ((bw_xW cy b d1 t sl hn hs cs ln rp rn rt) ++ (bw_oW cy o (vp_updL ou 0 (Int32.toInt64 r)) ++ []))) (by decide) rfl rfl dL_lender_9 (fun H locs hI => ?_)
  refine lv_goto (tgt := 21) hx hb dL_lender_10 (by decide) ?_
  refine lv_iconst (v := 0) hx hb dL_lender_21 rfl ?_
  exact bw_iretH (dd := (d1, vp_updL ou 0 (Int32.toInt64 r))) (rr := (rk, d', ou')) S hr hlocks h (fun q : bw_A2 × (Nat → Int64) => ((bw_xW cy b q.1 t sl hn hs cs ln rp rn rt) ++ (bw_oW cy o q.2 ++ []))) hI (Nat.le_of_ble_eq_true rfl) (Nat.le_of_ble_eq_true rfl) dL_lender_22 hQ
set_option maxRecDepth 100000 in
theorem Y_L_lender : bw_YH yL_lender cL_lender 5 (some .int) [(0, 10, 13, 20), (0, 10, 17, 13)] 4 := ⟨bw_memT 709 rfl rfl, bw_memT 0 rfl rfl, bw_memT 708 rfl rfl, ⟨by decide +kernel, by decide +kernel⟩, by decide +kernel⟩
set_option maxRecDepth 100000 in
theorem l_L_67 : (Jvm.Cond.methodLink "BufferLoansLaw" (67 : Nat) ({ cls := "BufferLoans", name := "count", desc := "(I)I" } : Jvm.MethodName)) ∈ bw_L := bw_memT 718 rfl rfl
def fL_count (d : bw_A2) (hs : Int32) (p1 : Int32) (ou : Nat → Int64) : Option (Int32 × (Nat → Int64)) :=
  bw_b2 (fX5_count d hs p1) fun ec r =>
  if ec = 0 then
    some (0, vp_updL ou 0 (Int32.toInt64 r))
  else if ec = 2 then
    some (1, ou)
  else none
set_option maxHeartbeats 4000000 in
set_option maxRecDepth 100000 in
theorem mL_count (l : Launch) (hfl : l.stackTraces = false) (G : va_G) (cy : Nat → ClassId) (g : Nat) (b : Nat → Nat → Nat) (o : Nat) (d : bw_A2) (t : bw_A2) (sl : bw_A3) (hn : Int32) (hs : Int32) (cs : bw_A1) (ln : Int32) (rp : Int32) (rn : Int32) (rt : Int32) (p1 : Int32) (ou : Nat → Int64) (rk : Int32) (ou' : (Nat → Int64)) (h : fL_count d hs p1 ou = some (rk, ou')) : bw_MH l yL_count cL_count 4 (some .int) [(0, 9, 12, 13)] 7 103 1 G cy g [.ref (b 8 5), .int p1, .ref o] ((bw_xW cy b d t sl hn hs cs ln rp rn rt) ++ (bw_oW cy o ou ++ [])) (some (.int rk)) ((bw_xW cy b d t sl hn hs cs ln rp rn rt) ++ (bw_oW cy o ou' ++ [])) := by
  refine bw_ofWH (by decide +kernel) RL rfl (Nat.le_of_ble_eq_true rfl) ?_
  intro p e s m below meth c ls S hr hlocks ht hK hZ hI hl
  have hx := S.1
  have hb := S.2.1
  generalize va_A _ s.heap.size = A at hI hZ ⊢
  generalize hQ : vx_MQ below _ _ _ s 1 (6 * 1) A = Q
  have hl : lv_has ls 4 [(0, .ref (b 8 5)), (1, .int p1), (2, .ref o)] := hl
  unfold fL_count at h
  refine lv_aload_n hx hb dL_count_0 rfl (lv_at hl 2 rfl) ?_
  refine lv_iconst (v := 0) hx hb dL_count_1 rfl ?_
  refine lv_aload_n hx hb dL_count_2 rfl (lv_at hl 0 rfl) ?_
  refine lv_iload_n hx hb dL_count_3 rfl (lv_at hl 1 rfl) ?_
  obtain ⟨ec, r, hc, h⟩ := bw_b2_e h
  refine bw_callVX S hK hZ hI (mX5_count l hfl G cy g b d t sl hn hs cs ln rp rn rt p1 ec r hc) Y_X5_count V_X5_count l_L_67 ⟨(Nat.le_of_ble_eq_true rfl), (Nat.le_of_ble_eq_true rfl)⟩ (q0 := 0) rfl rfl rfl (ws' := ((bw_xW cy b d t sl hn hs cs ln rp rn rt) ++ (bw_oW cy o ou ++ []))) (List.Perm.refl _) (List.Perm.refl _) rfl rfl hl.1 (rest := [.int 0, .ref o]) (st1 := [.int r, .int 0, .ref o]) rfl rfl (Nat.le_of_ble_eq_true rfl) dL_count_4 ⟨(Nat.le_of_ble_eq_true rfl), (Nat.le_of_ble_eq_true rfl)⟩ (fun h0 q ce H locs hI h1 h2 h3 => ?_) (fun h0 H locs hI => ?_)
  · rw [if_neg h0] at h
    by_cases c0 : ec = 2
    · subst c0
      rw [if_pos rfl] at h
      refine bw_catch (E := 2) S hZ ht [] (0, 9, 12, 13) [] rfl (by decide) (fun z hz => absurd hz List.not_mem_nil) (by decide) (by decide) cl_13 h1 h2 h3 ?_
      refine lv_astore_n (lv' := [(3, .ref q), (0, .ref (b 8 5)), (1, .int p1), (2, .ref o)]) hx hb dL_count_12 rfl hl (by decide) rfl (fun ls hl => ?_)
      refine lv_iconst (v := 1) hx hb dL_count_13 rfl ?_
      exact bw_iretH (dd := (ou)) (rr := (rk, ou')) S hr hlocks h (fun q : (Nat → Int64) => ((bw_xW cy b d t sl hn hs cs ln rp rn rt) ++ (bw_oW cy o q ++ []))) hI (Nat.le_of_ble_eq_true rfl) (Nat.le_of_ble_eq_true rfl) dL_count_14 hQ
    rw [if_neg c0] at h
    exact bw_none h
  rw [if_pos h0] at h
  refine lv_i2l hx hb dL_count_7 rfl ?_
  refine bw_last hx hb hK hI 94 (ws' := ((bw_xW cy b d t sl hn hs cs ln rp rn rt) ++ (bw_oW cy o (vp_updL ou 0 (Int32.toInt64 r)) ++ []))) (by decide) rfl rfl dL_count_8 (fun H locs hI => ?_)
  refine lv_goto (tgt := 15) hx hb dL_count_9 (by decide) ?_
  refine lv_iconst (v := 0) hx hb dL_count_15 rfl ?_
  exact bw_iretH (dd := (vp_updL ou 0 (Int32.toInt64 r))) (rr := (rk, ou')) S hr hlocks h (fun q : (Nat → Int64) => ((bw_xW cy b d t sl hn hs cs ln rp rn rt) ++ (bw_oW cy o q ++ []))) hI (Nat.le_of_ble_eq_true rfl) (Nat.le_of_ble_eq_true rfl) dL_count_16 hQ
set_option maxRecDepth 100000 in
theorem Y_L_count : bw_YH yL_count cL_count 4 (some .int) [(0, 9, 12, 13)] 3 := ⟨bw_memT 717 rfl rfl, bw_memT 0 rfl rfl, bw_memT 716 rfl rfl, ⟨by decide +kernel, by decide +kernel⟩, by decide +kernel⟩
set_option maxRecDepth 100000 in
theorem l_L_70 : (Jvm.Cond.methodLink "BufferLoansLaw" (70 : Nat) ({ cls := "BufferLoans", name := "setting", desc := "(I)I" } : Jvm.MethodName)) ∈ bw_L := bw_memT 726 rfl rfl
def fL_setting (d : bw_A2) (p1 : Int32) (ou : Nat → Int64) : Option (Int32 × (Nat → Int64)) :=
  bw_b2 (fX5_setting d p1) fun ec r =>
  if ec = 0 then
    some (0, vp_updL ou 0 (Int32.toInt64 r))
  else if ec = 1 then
    some (1, ou)
  else none
set_option maxHeartbeats 4000000 in
set_option maxRecDepth 100000 in
theorem mL_setting (l : Launch) (hfl : l.stackTraces = false) (G : va_G) (cy : Nat → ClassId) (g : Nat) (b : Nat → Nat → Nat) (o : Nat) (d : bw_A2) (t : bw_A2) (sl : bw_A3) (hn : Int32) (hs : Int32) (cs : bw_A1) (ln : Int32) (rp : Int32) (rn : Int32) (rt : Int32) (p1 : Int32) (ou : Nat → Int64) (rk : Int32) (ou' : (Nat → Int64)) (h : fL_setting d p1 ou = some (rk, ou')) : bw_MH l yL_setting cL_setting 4 (some .int) [(0, 9, 12, 20)] 8 123 2 G cy g [.ref (b 8 5), .int p1, .ref o] ((bw_xW cy b d t sl hn hs cs ln rp rn rt) ++ (bw_oW cy o ou ++ [])) (some (.int rk)) ((bw_xW cy b d t sl hn hs cs ln rp rn rt) ++ (bw_oW cy o ou' ++ [])) := by
  refine bw_ofWH (by decide +kernel) RL rfl (Nat.le_of_ble_eq_true rfl) ?_
  intro p e s m below meth c ls S hr hlocks ht hK hZ hI hl
  have hx := S.1
  have hb := S.2.1
  generalize va_A _ s.heap.size = A at hI hZ ⊢
  generalize hQ : vx_MQ below _ _ _ s 2 (6 * 2) A = Q
  have hl : lv_has ls 4 [(0, .ref (b 8 5)), (1, .int p1), (2, .ref o)] := hl
  unfold fL_setting at h
  refine lv_aload_n hx hb dL_setting_0 rfl (lv_at hl 2 rfl) ?_
  refine lv_iconst (v := 0) hx hb dL_setting_1 rfl ?_
  refine lv_aload_n hx hb dL_setting_2 rfl (lv_at hl 0 rfl) ?_
  refine lv_iload_n hx hb dL_setting_3 rfl (lv_at hl 1 rfl) ?_
  obtain ⟨ec, r, hc, h⟩ := bw_b2_e h
  refine bw_callVX S hK hZ hI (mX5_setting l hfl G cy g b d t sl hn hs cs ln rp rn rt p1 ec r hc) Y_X5_setting V_X5_setting l_L_70 ⟨(Nat.le_of_ble_eq_true rfl), (Nat.le_of_ble_eq_true rfl)⟩ (q0 := 0) rfl rfl rfl (ws' := ((bw_xW cy b d t sl hn hs cs ln rp rn rt) ++ (bw_oW cy o ou ++ []))) (List.Perm.refl _) (List.Perm.refl _) rfl rfl hl.1 (rest := [.int 0, .ref o]) (st1 := [.int r, .int 0, .ref o]) rfl rfl (Nat.le_of_ble_eq_true rfl) dL_setting_4 ⟨(Nat.le_of_ble_eq_true rfl), (Nat.le_of_ble_eq_true rfl)⟩ (fun h0 q ce H locs hI h1 h2 h3 => ?_) (fun h0 H locs hI => ?_)
  · rw [if_neg h0] at h
    by_cases c0 : ec = 1
    · subst c0
      rw [if_pos rfl] at h
      refine bw_catch (E := 1) S hZ ht [] (0, 9, 12, 20) [] rfl (by decide) (fun z hz => absurd hz List.not_mem_nil) (by decide) (by decide) cl_20 h1 h2 h3 ?_
      refine lv_astore_n (lv' := [(3, .ref q), (0, .ref (b 8 5)), (1, .int p1), (2, .ref o)]) hx hb dL_setting_12 rfl hl (by decide) rfl (fun ls hl => ?_)
      refine lv_iconst (v := 1) hx hb dL_setting_13 rfl ?_
      exact bw_iretH (dd := (ou)) (rr := (rk, ou')) S hr hlocks h (fun q : (Nat → Int64) => ((bw_xW cy b d t sl hn hs cs ln rp rn rt) ++ (bw_oW cy o q ++ []))) hI (Nat.le_of_ble_eq_true rfl) (Nat.le_of_ble_eq_true rfl) dL_setting_14 hQ
    rw [if_neg c0] at h
    exact bw_none h
  rw [if_pos h0] at h
  refine lv_i2l hx hb dL_setting_7 rfl ?_
  refine bw_last hx hb hK hI 94 (ws' := ((bw_xW cy b d t sl hn hs cs ln rp rn rt) ++ (bw_oW cy o (vp_updL ou 0 (Int32.toInt64 r)) ++ []))) (by decide) rfl rfl dL_setting_8 (fun H locs hI => ?_)
  refine lv_goto (tgt := 15) hx hb dL_setting_9 (by decide) ?_
  refine lv_iconst (v := 0) hx hb dL_setting_15 rfl ?_
  exact bw_iretH (dd := (vp_updL ou 0 (Int32.toInt64 r))) (rr := (rk, ou')) S hr hlocks h (fun q : (Nat → Int64) => ((bw_xW cy b d t sl hn hs cs ln rp rn rt) ++ (bw_oW cy o q ++ []))) hI (Nat.le_of_ble_eq_true rfl) (Nat.le_of_ble_eq_true rfl) dL_setting_16 hQ
set_option maxRecDepth 100000 in
theorem Y_L_setting : bw_YH yL_setting cL_setting 4 (some .int) [(0, 9, 12, 20)] 3 := ⟨bw_memT 725 rfl rfl, bw_memT 0 rfl rfl, bw_memT 724 rfl rfl, ⟨by decide +kernel, by decide +kernel⟩, by decide +kernel⟩
set_option maxRecDepth 100000 in
theorem l_L_73 : (Jvm.Cond.methodLink "BufferLoansLaw" (73 : Nat) ({ cls := "BufferLoans", name := "ifDone", desc := "(III)I" } : Jvm.MethodName)) ∈ bw_L := bw_memT 733 rfl rfl
def fL_ifDone (d : bw_A2) (t : bw_A2) (p1 : Int32) (p2 : Int32) (p3 : Int32) (ou : Nat → Int64) : Option (Int32 × bw_A2 × (Nat → Int64)) :=
  bw_b3 (fX5_ifDone d t p1 p2 p3) fun ec r t1 =>
  if ec = 0 then
    some (0, t1, vp_updL ou 0 (Int32.toInt64 r))
  else if ec = 1 then
    some (1, t1, ou)
  else if ec = 2 then
    some (2, t1, ou)
  else none
set_option maxHeartbeats 4000000 in
set_option maxRecDepth 100000 in
theorem mL_ifDone (l : Launch) (hfl : l.stackTraces = false) (G : va_G) (cy : Nat → ClassId) (g : Nat) (b : Nat → Nat → Nat) (o : Nat) (d : bw_A2) (t : bw_A2) (sl : bw_A3) (hn : Int32) (hs : Int32) (cs : bw_A1) (ln : Int32) (rp : Int32) (rn : Int32) (rt : Int32) (p1 : Int32) (p2 : Int32) (p3 : Int32) (ou : Nat → Int64) (rk : Int32) (t' : bw_A2) (ou' : (Nat → Int64)) (h : fL_ifDone d t p1 p2 p3 ou = some (rk, t', ou')) : bw_MH l yL_ifDone cL_ifDone 6 (some .int) [(0, 12, 15, 20), (0, 12, 19, 13)] 8 174 3 G cy g [.ref (b 8 5), .int p1, .int p2, .int p3, .ref o] ((bw_xW cy b d t sl hn hs cs ln rp rn rt) ++ (bw_oW cy o ou ++ [])) (some (.int rk)) ((bw_xW cy b d t' sl hn hs cs ln rp rn rt) ++ (bw_oW cy o ou' ++ [])) := by
  refine bw_ofWH (by decide +kernel) RL rfl (Nat.le_of_ble_eq_true rfl) ?_
  intro p e s m below meth c ls S hr hlocks ht hK hZ hI hl
  have hx := S.1
  have hb := S.2.1
  generalize va_A _ s.heap.size = A at hI hZ ⊢
  generalize hQ : vx_MQ below _ _ _ s 3 (6 * 3) A = Q
  have hl : lv_has ls 6 [(0, .ref (b 8 5)), (1, .int p1), (2, .int p2), (3, .int p3), (4, .ref o)] := hl
  unfold fL_ifDone at h
  refine lv_aload hx hb dL_ifDone_0 (lv_at hl 4 rfl) ?_
  refine lv_iconst (v := 0) hx hb dL_ifDone_2 rfl ?_
  refine lv_aload_n hx hb dL_ifDone_3 rfl (lv_at hl 0 rfl) ?_
  refine lv_iload_n hx hb dL_ifDone_4 rfl (lv_at hl 1 rfl) ?_
  refine lv_iload_n hx hb dL_ifDone_5 rfl (lv_at hl 2 rfl) ?_
  refine lv_iload_n hx hb dL_ifDone_6 rfl (lv_at hl 3 rfl) ?_
  obtain ⟨ec, r, t1, hc, h⟩ := bw_b3_e h
  refine bw_callVX S hK hZ hI (mX5_ifDone l hfl G cy g b d t sl hn hs cs ln rp rn rt p1 p2 p3 ec r t1 hc) Y_X5_ifDone V_X5_ifDone l_L_73 ⟨(Nat.le_of_ble_eq_true rfl), (Nat.le_of_ble_eq_true rfl)⟩ (q0 := 0) rfl rfl rfl (ws' := ((bw_xW cy b d t1 sl hn hs cs ln rp rn rt) ++ (bw_oW cy o ou ++ []))) (List.Perm.refl _) (List.Perm.refl _) rfl rfl hl.1 (rest := [.int 0, .ref o]) (st1 := [.int r, .int 0, .ref o]) rfl rfl (Nat.le_of_ble_eq_true rfl) dL_ifDone_7 ⟨(Nat.le_of_ble_eq_true rfl), (Nat.le_of_ble_eq_true rfl)⟩ (fun h0 q ce H locs hI h1 h2 h3 => ?_) (fun h0 H locs hI => ?_)
  · rw [if_neg h0] at h
    by_cases c0 : ec = 1
    · subst c0
      rw [if_pos rfl] at h
      refine bw_catch (E := 1) S hZ ht [] (0, 12, 15, 20) [(0, 12, 19, 13)] rfl (by decide) (fun z hz => absurd hz List.not_mem_nil) (by decide) (by decide) cl_20 h1 h2 h3 ?_
      refine lv_astore (lv' := [(5, .ref q), (0, .ref (b 8 5)), (1, .int p1), (2, .int p2), (3, .int p3), (4, .ref o)]) hx hb dL_ifDone_15 hl (by decide) rfl (fun ls hl => ?_)
      refine lv_iconst (v := 1) hx hb dL_ifDone_17 rfl ?_
      exact bw_iretH (dd := (t1, ou)) (rr := (rk, t', ou')) S hr hlocks h (fun q : bw_A2 × (Nat → Int64) => ((bw_xW cy b d q.1 sl hn hs cs ln rp rn rt) ++ (bw_oW cy o q.2 ++ []))) hI (Nat.le_of_ble_eq_true rfl) (Nat.le_of_ble_eq_true rfl) dL_ifDone_18 hQ
    rw [if_neg c0] at h
    by_cases c1 : ec = 2
    · subst c1
      rw [if_pos rfl] at h
      refine bw_catch (E := 2) S hZ ht [(0, 12, 15, 20)] (0, 12, 19, 13) [] rfl (by decide) (List.forall_mem_cons.mpr ⟨⟨by decide, 1, by decide, by decide, by decide, cl_20⟩, fun z hz => absurd hz List.not_mem_nil⟩) (by decide) (by decide) cl_13 h1 h2 h3 ?_
      refine lv_astore (lv' := [(5, .ref q), (0, .ref (b 8 5)), (1, .int p1), (2, .int p2), (3, .int p3), (4, .ref o)]) hx hb dL_ifDone_19 hl (by decide) rfl (fun ls hl => ?_)
      refine lv_iconst (v := 2) hx hb dL_ifDone_21 rfl ?_
      exact bw_iretH (dd := (t1, ou)) (rr := (rk, t', ou')) S hr hlocks h (fun q : bw_A2 × (Nat → Int64) => ((bw_xW cy b d q.1 sl hn hs cs ln rp rn rt) ++ (bw_oW cy o q.2 ++ []))) hI (Nat.le_of_ble_eq_true rfl) (Nat.le_of_ble_eq_true rfl) dL_ifDone_22 hQ
    rw [if_neg c1] at h
    exact bw_none h
  rw [if_pos h0] at h
  refine lv_i2l hx hb dL_ifDone_10 rfl ?_
  refine bw_last hx hb hK hI 94 (ws' := ((bw_xW cy b d t1 sl hn hs cs ln rp rn rt) ++ (bw_oW cy o (vp_updL ou 0 (Int32.toInt64 r)) ++ []))) (by decide) rfl rfl dL_ifDone_11 (fun H locs hI => ?_)
  refine lv_goto (tgt := 23) hx hb dL_ifDone_12 (by decide) ?_
  refine lv_iconst (v := 0) hx hb dL_ifDone_23 rfl ?_
  exact bw_iretH (dd := (t1, vp_updL ou 0 (Int32.toInt64 r))) (rr := (rk, t', ou')) S hr hlocks h (fun q : bw_A2 × (Nat → Int64) => ((bw_xW cy b d q.1 sl hn hs cs ln rp rn rt) ++ (bw_oW cy o q.2 ++ []))) hI (Nat.le_of_ble_eq_true rfl) (Nat.le_of_ble_eq_true rfl) dL_ifDone_24 hQ
set_option maxRecDepth 100000 in
theorem Y_L_ifDone : bw_YH yL_ifDone cL_ifDone 6 (some .int) [(0, 12, 15, 20), (0, 12, 19, 13)] 5 := ⟨bw_memT 732 rfl rfl, bw_memT 0 rfl rfl, bw_memT 731 rfl rfl, ⟨by decide +kernel, by decide +kernel⟩, by decide +kernel⟩
set_option maxRecDepth 100000 in
theorem l_L_76 : (Jvm.Cond.methodLink "BufferLoansLaw" (76 : Nat) ({ cls := "BufferLoans", name := "bears", desc := "(I)I" } : Jvm.MethodName)) ∈ bw_L := bw_memT 741 rfl rfl
def fL_bears (d : bw_A2) (p1 : Int32) (ou : Nat → Int64) : Option (Int32 × (Nat → Int64)) :=
  bw_b2 (fX5_bears d p1) fun ec r =>
  if ec = 0 then
    some (0, vp_updL ou 0 (Int32.toInt64 r))
  else if ec = 1 then
    some (1, ou)
  else none
set_option maxHeartbeats 4000000 in
set_option maxRecDepth 100000 in
theorem mL_bears (l : Launch) (hfl : l.stackTraces = false) (G : va_G) (cy : Nat → ClassId) (g : Nat) (b : Nat → Nat → Nat) (o : Nat) (d : bw_A2) (t : bw_A2) (sl : bw_A3) (hn : Int32) (hs : Int32) (cs : bw_A1) (ln : Int32) (rp : Int32) (rn : Int32) (rt : Int32) (p1 : Int32) (ou : Nat → Int64) (rk : Int32) (ou' : (Nat → Int64)) (h : fL_bears d p1 ou = some (rk, ou')) : bw_MH l yL_bears cL_bears 4 (some .int) [(0, 9, 12, 20)] 8 124 2 G cy g [.ref (b 8 5), .int p1, .ref o] ((bw_xW cy b d t sl hn hs cs ln rp rn rt) ++ (bw_oW cy o ou ++ [])) (some (.int rk)) ((bw_xW cy b d t sl hn hs cs ln rp rn rt) ++ (bw_oW cy o ou' ++ [])) := by
  refine bw_ofWH (by decide +kernel) RL rfl (Nat.le_of_ble_eq_true rfl) ?_
  intro p e s m below meth c ls S hr hlocks ht hK hZ hI hl
  have hx := S.1
  have hb := S.2.1
  generalize va_A _ s.heap.size = A at hI hZ ⊢
  generalize hQ : vx_MQ below _ _ _ s 2 (6 * 2) A = Q
  have hl : lv_has ls 4 [(0, .ref (b 8 5)), (1, .int p1), (2, .ref o)] := hl
  unfold fL_bears at h
  refine lv_aload_n hx hb dL_bears_0 rfl (lv_at hl 2 rfl) ?_
  refine lv_iconst (v := 0) hx hb dL_bears_1 rfl ?_
  refine lv_aload_n hx hb dL_bears_2 rfl (lv_at hl 0 rfl) ?_
  refine lv_iload_n hx hb dL_bears_3 rfl (lv_at hl 1 rfl) ?_
  obtain ⟨ec, r, hc, h⟩ := bw_b2_e h
  refine bw_callVX S hK hZ hI (mX5_bears l hfl G cy g b d t sl hn hs cs ln rp rn rt p1 ec r hc) Y_X5_bears V_X5_bears l_L_76 ⟨(Nat.le_of_ble_eq_true rfl), (Nat.le_of_ble_eq_true rfl)⟩ (q0 := 0) rfl rfl rfl (ws' := ((bw_xW cy b d t sl hn hs cs ln rp rn rt) ++ (bw_oW cy o ou ++ []))) (List.Perm.refl _) (List.Perm.refl _) rfl rfl hl.1 (rest := [.int 0, .ref o]) (st1 := [.int r, .int 0, .ref o]) rfl rfl (Nat.le_of_ble_eq_true rfl) dL_bears_4 ⟨(Nat.le_of_ble_eq_true rfl), (Nat.le_of_ble_eq_true rfl)⟩ (fun h0 q ce H locs hI h1 h2 h3 => ?_) (fun h0 H locs hI => ?_)
  · rw [if_neg h0] at h
    by_cases c0 : ec = 1
    · subst c0
      rw [if_pos rfl] at h
      refine bw_catch (E := 1) S hZ ht [] (0, 9, 12, 20) [] rfl (by decide) (fun z hz => absurd hz List.not_mem_nil) (by decide) (by decide) cl_20 h1 h2 h3 ?_
      refine lv_astore_n (lv' := [(3, .ref q), (0, .ref (b 8 5)), (1, .int p1), (2, .ref o)]) hx hb dL_bears_12 rfl hl (by decide) rfl (fun ls hl => ?_)
      refine lv_iconst (v := 1) hx hb dL_bears_13 rfl ?_
      exact bw_iretH (dd := (ou)) (rr := (rk, ou')) S hr hlocks h (fun q : (Nat → Int64) => ((bw_xW cy b d t sl hn hs cs ln rp rn rt) ++ (bw_oW cy o q ++ []))) hI (Nat.le_of_ble_eq_true rfl) (Nat.le_of_ble_eq_true rfl) dL_bears_14 hQ
    rw [if_neg c0] at h
    exact bw_none h
  rw [if_pos h0] at h
  refine lv_i2l hx hb dL_bears_7 rfl ?_
  refine bw_last hx hb hK hI 94 (ws' := ((bw_xW cy b d t sl hn hs cs ln rp rn rt) ++ (bw_oW cy o (vp_updL ou 0 (Int32.toInt64 r)) ++ []))) (by decide) rfl rfl dL_bears_8 (fun H locs hI => ?_)
  refine lv_goto (tgt := 15) hx hb dL_bears_9 (by decide) ?_
  refine lv_iconst (v := 0) hx hb dL_bears_15 rfl ?_
  exact bw_iretH (dd := (vp_updL ou 0 (Int32.toInt64 r))) (rr := (rk, ou')) S hr hlocks h (fun q : (Nat → Int64) => ((bw_xW cy b d t sl hn hs cs ln rp rn rt) ++ (bw_oW cy o q ++ []))) hI (Nat.le_of_ble_eq_true rfl) (Nat.le_of_ble_eq_true rfl) dL_bears_16 hQ
set_option maxRecDepth 100000 in
theorem Y_L_bears : bw_YH yL_bears cL_bears 4 (some .int) [(0, 9, 12, 20)] 3 := ⟨bw_memT 740 rfl rfl, bw_memT 0 rfl rfl, bw_memT 739 rfl rfl, ⟨by decide +kernel, by decide +kernel⟩, by decide +kernel⟩
set_option maxRecDepth 100000 in
theorem l_L_79 : (Jvm.Cond.methodLink "BufferLoansLaw" (79 : Nat) ({ cls := "BufferLoans", name := "bestRule", desc := "(II)I" } : Jvm.MethodName)) ∈ bw_L := bw_memT 748 rfl rfl
def fL_bestRule (d : bw_A2) (t : bw_A2) (p1 : Int32) (p2 : Int32) (ou : Nat → Int64) : Option (Int32 × bw_A2 × (Nat → Int64)) :=
  bw_b3 (fX5_bestRule d t p1 p2) fun ec r t1 =>
  if ec = 0 then
    some (0, t1, vp_updL ou 0 (Int32.toInt64 r))
  else if ec = 1 then
    some (1, t1, ou)
  else if ec = 2 then
    some (2, t1, ou)
  else none
set_option maxHeartbeats 4000000 in
set_option maxRecDepth 100000 in
theorem mL_bestRule (l : Launch) (hfl : l.stackTraces = false) (G : va_G) (cy : Nat → ClassId) (g : Nat) (b : Nat → Nat → Nat) (o : Nat) (d : bw_A2) (t : bw_A2) (sl : bw_A3) (hn : Int32) (hs : Int32) (cs : bw_A1) (ln : Int32) (rp : Int32) (rn : Int32) (rt : Int32) (p1 : Int32) (p2 : Int32) (ou : Nat → Int64) (rk : Int32) (t' : bw_A2) (ou' : (Nat → Int64)) (h : fL_bestRule d t p1 p2 ou = some (rk, t', ou')) : bw_MH l yL_bestRule cL_bestRule 5 (some .int) [(0, 10, 13, 20), (0, 10, 17, 13)] 8 177 3 G cy g [.ref (b 8 5), .int p1, .int p2, .ref o] ((bw_xW cy b d t sl hn hs cs ln rp rn rt) ++ (bw_oW cy o ou ++ [])) (some (.int rk)) ((bw_xW cy b d t' sl hn hs cs ln rp rn rt) ++ (bw_oW cy o ou' ++ [])) := by
  refine bw_ofWH (by decide +kernel) RL rfl (Nat.le_of_ble_eq_true rfl) ?_
  intro p e s m below meth c ls S hr hlocks ht hK hZ hI hl
  have hx := S.1
  have hb := S.2.1
  generalize va_A _ s.heap.size = A at hI hZ ⊢
  generalize hQ : vx_MQ below _ _ _ s 3 (6 * 3) A = Q
  have hl : lv_has ls 5 [(0, .ref (b 8 5)), (1, .int p1), (2, .int p2), (3, .ref o)] := hl
  unfold fL_bestRule at h
  refine lv_aload_n hx hb dL_bestRule_0 rfl (lv_at hl 3 rfl) ?_
  refine lv_iconst (v := 0) hx hb dL_bestRule_1 rfl ?_
  refine lv_aload_n hx hb dL_bestRule_2 rfl (lv_at hl 0 rfl) ?_
  refine lv_iload_n hx hb dL_bestRule_3 rfl (lv_at hl 1 rfl) ?_
  refine lv_iload_n hx hb dL_bestRule_4 rfl (lv_at hl 2 rfl) ?_
  obtain ⟨ec, r, t1, hc, h⟩ := bw_b3_e h
  refine bw_callVX S hK hZ hI (mX5_bestRule l hfl G cy g b d t sl hn hs cs ln rp rn rt p1 p2 ec r t1 hc) Y_X5_bestRule V_X5_bestRule l_L_79 ⟨(Nat.le_of_ble_eq_true rfl), (Nat.le_of_ble_eq_true rfl)⟩ (q0 := 0) rfl rfl rfl (ws' := ((bw_xW cy b d t1 sl hn hs cs ln rp rn rt) ++ (bw_oW cy o ou ++ []))) (List.Perm.refl _) (List.Perm.refl _) rfl rfl hl.1 (rest := [.int 0, .ref o]) (st1 := [.int r, .int 0, .ref o]) rfl rfl (Nat.le_of_ble_eq_true rfl) dL_bestRule_5 ⟨(Nat.le_of_ble_eq_true rfl), (Nat.le_of_ble_eq_true rfl)⟩ (fun h0 q ce H locs hI h1 h2 h3 => ?_) (fun h0 H locs hI => ?_)
  · rw [if_neg h0] at h
    by_cases c0 : ec = 1
    · subst c0
      rw [if_pos rfl] at h
      refine bw_catch (E := 1) S hZ ht [] (0, 10, 13, 20) [(0, 10, 17, 13)] rfl (by decide) (fun z hz => absurd hz List.not_mem_nil) (by decide) (by decide) cl_20 h1 h2 h3 ?_
      refine lv_astore (lv' := [(4, .ref q), (0, .ref (b 8 5)), (1, .int p1), (2, .int p2), (3, .ref o)]) hx hb dL_bestRule_13 hl (by decide) rfl (fun ls hl => ?_)
      refine lv_iconst (v := 1) hx hb dL_bestRule_15 rfl ?_
      exact bw_iretH (dd := (t1, ou)) (rr := (rk, t', ou')) S hr hlocks h (fun q : bw_A2 × (Nat → Int64) => ((bw_xW cy b d q.1 sl hn hs cs ln rp rn rt) ++ (bw_oW cy o q.2 ++ []))) hI (Nat.le_of_ble_eq_true rfl) (Nat.le_of_ble_eq_true rfl) dL_bestRule_16 hQ
    rw [if_neg c0] at h
    by_cases c1 : ec = 2
    · subst c1
      rw [if_pos rfl] at h
      refine bw_catch (E := 2) S hZ ht [(0, 10, 13, 20)] (0, 10, 17, 13) [] rfl (by decide) (List.forall_mem_cons.mpr ⟨⟨by decide, 1, by decide, by decide, by decide, cl_20⟩, fun z hz => absurd hz List.not_mem_nil⟩) (by decide) (by decide) cl_13 h1 h2 h3 ?_
      refine lv_astore (lv' := [(4, .ref q), (0, .ref (b 8 5)), (1, .int p1), (2, .int p2), (3, .ref o)]) hx hb dL_bestRule_17 hl (by decide) rfl (fun ls hl => ?_)
      refine lv_iconst (v := 2) hx hb dL_bestRule_19 rfl ?_
      exact bw_iretH (dd := (t1, ou)) (rr := (rk, t', ou')) S hr hlocks h (fun q : bw_A2 × (Nat → Int64) => ((bw_xW cy b d q.1 sl hn hs cs ln rp rn rt) ++ (bw_oW cy o q.2 ++ []))) hI (Nat.le_of_ble_eq_true rfl) (Nat.le_of_ble_eq_true rfl) dL_bestRule_20 hQ
    rw [if_neg c1] at h
    exact bw_none h
  rw [if_pos h0] at h
  refine lv_i2l hx hb dL_bestRule_8 rfl ?_
  refine bw_last hx hb hK hI 94 (ws' := ((bw_xW cy b d t1 sl hn hs cs ln rp rn rt) ++ (bw_oW cy o (vp_updL ou 0 (Int32.toInt64 r)) ++ []))) (by decide) rfl rfl dL_bestRule_9 (fun H locs hI => ?_)
  refine lv_goto (tgt := 21) hx hb dL_bestRule_10 (by decide) ?_
  refine lv_iconst (v := 0) hx hb dL_bestRule_21 rfl ?_
  exact bw_iretH (dd := (t1, vp_updL ou 0 (Int32.toInt64 r))) (rr := (rk, t', ou')) S hr hlocks h (fun q : bw_A2 × (Nat → Int64) => ((bw_xW cy b d q.1 sl hn hs cs ln rp rn rt) ++ (bw_oW cy o q.2 ++ []))) hI (Nat.le_of_ble_eq_true rfl) (Nat.le_of_ble_eq_true rfl) dL_bestRule_22 hQ
set_option maxRecDepth 100000 in
theorem Y_L_bestRule : bw_YH yL_bestRule cL_bestRule 5 (some .int) [(0, 10, 13, 20), (0, 10, 17, 13)] 4 := ⟨bw_memT 747 rfl rfl, bw_memT 0 rfl rfl, bw_memT 746 rfl rfl, ⟨by decide +kernel, by decide +kernel⟩, by decide +kernel⟩
