/-! ===== rows over bw_I ===== -/
/-- what a method's end says: the answer, the world, nothing else -/
def bw_Q (G : va_G) (rv : Option Value) (ws' : va_W) (A : Nat → Prop) : Array Value → State → Outcome → State → Prop := fun _ st oc t => oc = .returned rv ∧ va_P G vwCl ws' t.heap ∧ va_F A st t
/-- the statics that are read: the array of the greatest values, and the two of Throwable's; what the tables say of the exceptions and of the texts -/
def bw_gv : Nat → Int32 := fun j => if j = 0 then 2 else 100
def bw_exn : Nat → String
  | 1 => "java/lang/IndexOutOfBoundsException"
  | 2 => "java/lang/IllegalArgumentException"
  | _ => "java/lang/IllegalStateException"
def bw_strs : List (Nat × String) := [(39, "rank or buffer out of range"), (50, "too many projects"), (65, "days out of range"), (74, "project closed or with too many tasks"), (79, "rank out of range"), (91, "value out of range"), (102, "project closed or without a next task"), (107, "same project or days out of range"), (109, "project closed or too few days left"), (118, "too few days owed or left"), (127, "project closed or with a next task"), (132, "code out of range"), (137, "buffer full"), (152, "no complete plan"), (163, "nothing saved"), (168, "no such property"), (172, "no such task"), (182, "no such loan"), (184, "no such part"), (189, "no such place"), (194, "no such number"), (202, "no such result"), (254, "no such project"), (256, "no such setting")]
def bw_dcl : List MethodName := [⟨"java/lang/RuntimeException", "<init>", "(Ljava/lang/String;)V"⟩, ⟨"java/lang/Exception", "<init>", "(Ljava/lang/String;)V"⟩, ⟨"java/lang/Throwable", "<init>", "(Ljava/lang/String;)V"⟩]
def bw_N (U : State) : Prop := (∀ k : Nat, 1 ≤ k → k ≤ 3 → va_Nw (.castable (bw_exn k) (bw_exn k)) U) ∧ (∀ j k : Nat, 1 ≤ j → j ≤ 3 → 1 ≤ k → k ≤ 3 → j ≠ k → va_Nc (bw_exn j) (bw_exn k) U) ∧ (∀ q ∈ bw_strs, ∃ a : Nat, vk_R "BufferLoans" q.1 q.2 a U) ∧ (∀ x ∈ bw_dcl, va_Nw (.declares x) U) ∧ va_Nw (.fieldLinkNest "BufferLoans$Desk" 26 "BufferLoans" "GREATEST_VALUES" "[I" "BufferLoans") U ∧ va_Nw (.methodLinkNest "BufferLoans" 28 ⟨"BufferLoans$Text", "<init>", "()V"⟩ "BufferLoans") U ∧ va_Nw (.methodLinkNest "BufferLoans$Text" 17 ⟨"BufferLoans$Reader", "<init>", "()V"⟩ "BufferLoans") U ∧ va_AO "BufferLoans$Desk" U
theorem bw_Nc_moved {C T : String} {u U : State} (hvm : u.vm.Alike U.vm) (h : va_Nc C T u) : va_Nc C T U := by
  obtain ⟨c, t, h1, h2, h3⟩ := h
  exact ⟨c, t, by rw [hvm.findClass]; exact h1, by rw [hvm.findClass]; exact h2, by rw [hvm.assignable]; exact h3⟩
theorem bw_N.warm {u U : State} (hW : u.WarmedH U.vm) (h : bw_N u) : bw_N U := by
  obtain ⟨h1, h2, h3, h4, h5, h6, h7, h8⟩ := h
  refine ⟨fun k a b => va_Nw.warmC hW (h1 k a b), fun j k a b c d e => bw_Nc_moved hW.alike (h2 j k a b c d e), fun q hq => ?_, fun x hx => va_Nw.warmD hW (h4 x hx), va_Nw.warmF hW h5, va_Nw.warmM hW h6, va_Nw.warmM hW h7, va_AO.moved hW.alike h8⟩
  obtain ⟨a, ha⟩ := h3 q hq
  exact ⟨a, vk_R.warm hW ha⟩
def bw_Z (g : Nat) (A : Nat → Prop) (U : State) (H : Heap) : Prop := va_Z "BufferLoans" "GREATEST_VALUES" "[I" (.ref g) A U H ∧ va_T .int g 3 (fun j => .int (bw_gv j)) A U H ∧ vx_Zq Bundle.tN "UNASSIGNED_STACK" Bundle.steD A U H ∧ vx_Zq Bundle.tN "SUPPRESSED_SENTINEL" Bundle.listD A U H ∧ bw_N U
theorem bw_Z.warm {g : Nat} {A : Nat → Prop} {u U : State} {H : Heap} (hW : u.WarmedH U.vm) (h : bw_Z g A u H) : bw_Z g A U H := ⟨va_Z.moved hW.alike h.1, va_T.moved hW.alike h.2.1, vx_Zq.moved hW.alike h.2.2.1, vx_Zq.moved hW.alike h.2.2.2.1, h.2.2.2.2.warm hW⟩
theorem bw_Z.to {g : Nat} {A B : Nat → Prop} {s U : State} {H0 H : Heap} (h : bw_Z g A s H0) (hq : ∀ a : Nat, a < H0.size → ¬ A a → H[a]? = H0[a]?) (hW : s.WarmedH U.vm) (hAB : ∀ q, B q → A q) : bw_Z g B U H := by
  obtain ⟨h1, h2, h3, h4, h5⟩ := h
  have n4 : vx_Zq Bundle.tN "SUPPRESSED_SENTINEL" Bundle.listD B U H := vx_Zq.moved hW.alike (vx_Zq.narrow (vx_Zq.kept h4 hq) hAB)
  have n3 : vx_Zq Bundle.tN "UNASSIGNED_STACK" Bundle.steD B U H := vx_Zq.moved hW.alike (vx_Zq.narrow (vx_Zq.kept h3 hq) hAB)
  exact ⟨va_Z.moved hW.alike (va_Z.narrow (va_Z.kept h1 hq) hAB), va_T.moved hW.alike (va_T.narrow (va_T.kept h2 hq) hAB), n3, n4, h5.warm hW⟩
def bw_B (G : va_G) (cy : Nat → ClassId) (g : Nat) (ws : va_W) (sz : Nat) : State → Prop := fun U => U.heap.size = sz ∧ va_P G vwCl ws U.heap ∧ va_K G vwCl (bw_tys cy) U ∧ va_D (fun _ => True) ws ∧ bw_Z g (va_A ws sz) U U.heap
/-- the contract of a method that makes nothing and throws nothing: from the world ws with the arguments av it answers rv and leaves the world ws' -/
def bw_M (l : Launch) (y : MethodName) (cc : ByteArray) (n : Nat) (r : Option FieldType) (f loc : Nat) (G : va_G) (cy : Nat → ClassId) (g : Nat) (av : List Value) (ws : va_W) (rv : Option Value) (ws' : va_W) : Prop :=
  ∀ sz : Nat, Met l y (bw_ws y cc n r) (bw_rm f loc) (va_Pc av (bw_B G cy g ws sz)) (bw_Q G rv ws' (va_A ws sz)) 0 0 (va_A ws sz)
theorem bw_blind {G : va_G} {cy : Nat → ClassId} {g : Nat} {av : List Value} {ws : va_W} {sz : Nat} : FrameBlind (va_Pc av (bw_B G cy g ws sz)) := fun a U g9 mk q => by
  obtain ⟨q0, q1, qP, qK, qD, qZ⟩ := q
  exact ⟨q0, q1, qP, va_K.moved (u := U) (U := U.calling g9 mk a) (Vm.Alike.refl U.vm) qK, qD, bw_Z.warm (u := U) (U := U.calling g9 mk a) (State.WarmedH.refl U) qZ⟩
section BWR
variable {p : Program} {l : Launch} {e : Env} {R : Room} {s : State} {m : MethodId} {args : Array Value} {below : List Frame} {meth : Method} {c : Code} {H : Heap} {locs : List Loc} {cells slots : Nat} {Q : State → Prop}
variable {cc : ByteArray} {nL pc : Nat} {ls : Array Slot} {rest : List Value} {G : va_G} {cy : Nat → ClassId} {A : Nat → Prop} {H0 : Heap} {ws : va_W} {own : String} {x0 : Cond} {a g : Nat}
theorem bw_get (S : CallFix p m c cc nL s args (x0 :: bw_L) own) (hK : va_K G vwCl (bw_tys cy) s) (hI : bw_I G A H0 ws H locs) (q0 k : Nat) {ci N index : Nat} {C : String} {T : u_T} {fs : List Value} {v : Value} (he : ws[q0]? = some (a, .inr (ci, fs))) (hc : vwCl[ci]? = some (C, T, N)) (hk : k < N) (hin : ∀ w ∈ u_ws C T N, w ∈ bw_L)
    (hlink : Cond.fieldLink own index (T k).1 (T k).2.1 (T k).2.2.1 ∈ bw_L) (hv : fs[k]? = some v) (hdg : decode cc pc = .ok (.getfield index, 3)) (kk : W p l e R s m args below meth c H locs cells slots Q (F0 m (pc + 3) ls (v :: rest))) : W p l e R s m args below meth c H locs cells slots Q (F0 m pc ls (.ref a :: rest)) := by
  obtain ⟨hx, hb, -, hown, hts⟩ := S
  exact va_get hx hb hts (fun w h => List.mem_cons_of_mem _ (hin w h)) hown hK hI.1 q0 he hc k hk (hts _ (List.mem_cons_of_mem _ hlink)) (fun _ h => h) hv hdg kk
theorem bw_put (S : CallFix p m c cc nL s args (x0 :: bw_L) own) (hK : va_K G vwCl (bw_tys cy) s) (hI : bw_I G A H0 ws H locs) (q0 k : Nat) {ci N index : Nat} {C : String} {T : u_T} {fs : List Value} {v : Value} {ws' : va_W} (ty0 : Nat → FieldType) (hty : ∀ k, k < N → parseFieldDescriptor (T k).2.2.1 = some (ty0 k)) (hnm : ∀ a, a < N → ∀ b, b < N → a ≠ b → (T a).2.1 ≠ (T b).2.1)
    (he : ws[q0]? = some (a, .inr (ci, fs))) (hc : vwCl[ci]? = some (C, T, N)) (hk : k < N) (hin : ∀ w ∈ u_ws C T N, w ∈ bw_L) (hlink : Cond.fieldLink own index (T k).1 (T k).2.1 (T k).2.2.1 ∈ bw_L) (hfin : (T k).2.2.2 = false) {ty : FieldType} (hd : ty0 k = ty) (hn : narrow ty v = v) (hfit : fits ty v = true) (hl : k < fs.length) (hw : ws.set q0 (a, .inr (ci, fs.set k v)) = ws')
    (hdg : decode cc pc = .ok (.putfield index, 3)) (kk : ∀ (H1 : Heap) (locs1 : List Loc), bw_I G A H0 ws' H1 locs1 → W p l e R s m args below meth c H1 locs1 cells slots Q (F0 m (pc + 3) ls rest)) : W p l e R s m args below meth c H locs cells slots Q (F0 m pc ls (v :: .ref a :: rest)) := by
  obtain ⟨hx, hb, -, hown, hts⟩ := S
  subst hw
  refine va_put hx hb hts (fun w h => List.mem_cons_of_mem _ (hin w h)) ty0 hty hnm hown hK hI.1 hI.2.1 hI.2.2.1 q0 he hc k hk (hts _ (List.mem_cons_of_mem _ hlink)) (fun _ h => h) hfin (by rw [hty k hk, hd]) hn hfit hl hdg (fun H1 locs1 h1 h2 h3 => kk H1 locs1 ⟨h1, h2, h3, hI.2.2.2⟩)
theorem bw_iald (hx : p.tables.exec = Jvm.exec) (hb : c.code = cc) (hK : va_K G vwCl (bw_tys cy) s) (hI : bw_I G A H0 ws H locs) (q0 : Nat) {n : Nat} {f : Nat → Int32} {i v : Int32} (hv : bw_rd n f i = some v) (he : ws[q0]? = some (a, .inl (cy 0, n, .inl f))) (hdg : decode cc pc = .ok (.iaload, 1))
    (kk : W p l e R s m args below meth c H locs cells slots Q (F0 m (pc + 1) ls (.int v :: rest))) : W p l e R s m args below meth c H locs cells slots Q (F0 m pc ls (.int i :: .ref a :: rest)) := by
  obtain ⟨h1, rfl⟩ := bw_rd_e hv
  exact va_iald hx hb hK hI.1 q0 0 he rfl h1 hdg kk
theorem bw_iast (hx : p.tables.exec = Jvm.exec) (hb : c.code = cc) (hK : va_K G vwCl (bw_tys cy) s) (hI : bw_I G A H0 ws H locs) (q0 : Nat) {n : Nat} {f f' : Nat → Int32} {i x : Int32} {ws' : va_W} (hv : bw_wr n f i x = some f') (he : ws[q0]? = some (a, .inl (cy 0, n, .inl f))) (hw : ws.set q0 (a, .inl (cy 0, n, .inl f')) = ws') (hdg : decode cc pc = .ok (.iastore, 1))
    (kk : ∀ (H1 : Heap) (locs1 : List Loc), bw_I G A H0 ws' H1 locs1 → W p l e R s m args below meth c H1 locs1 cells slots Q (F0 m (pc + 1) ls rest)) : W p l e R s m args below meth c H locs cells slots Q (F0 m pc ls (.int x :: .int i :: .ref a :: rest)) := by
  obtain ⟨h1, rfl⟩ := bw_wr_e hv
  subst hw
  exact va_iast hx hb hK hI.1 hI.2.1 hI.2.2.1 q0 0 he rfl h1 hdg (fun H1 locs1 q1 q2 q3 => kk H1 locs1 ⟨q1, q2, q3, hI.2.2.2⟩)
theorem bw_alen (hx : p.tables.exec = Jvm.exec) (hb : c.code = cc) (hK : va_K G vwCl (bw_tys cy) s) (hI : bw_I G A H0 ws H locs) (q0 : Nat) {n : Nat} {f : Nat → Int32} {v : Int32} (he : ws[q0]? = some (a, .inl (cy 0, n, .inl f))) (hv : Int32.ofNat n = v) (hdg : decode cc pc = .ok (.arraylength, 1))
    (kk : W p l e R s m args below meth c H locs cells slots Q (F0 m (pc + 1) ls (.int v :: rest))) : W p l e R s m args below meth c H locs cells slots Q (F0 m pc ls (.ref a :: rest)) :=
  va_alen hx hb hK hI.1 q0 0 he (ty := .int) rfl hv hdg kk
theorem bw_sub {wc rs : va_W} (hI : bw_I G A H0 ws H locs) (he : ws.Perm (wc ++ rs)) : ∀ q, va_A wc H.size q → A q := by
  intro q hq
  obtain ⟨-, hD, hS, hA⟩ := hI
  rcases bw_A_iff.mp hq with h | h
  · obtain ⟨q2, h3, rfl⟩ := List.mem_map.mp h
    exact (bw_D_iff.mp hD).2 q2 (he.mem_iff.mpr (List.mem_append_left _ h3))
  · exact hA q (Nat.le_trans hS.1 h)
/-- behind any call by a contract of the layer -/
theorem bw_go {rv : Option Value} {wc rs w1 ws' : va_W} {st0 st1 : List Value} {mc ms : Nat} {av : Array Value} (hr : va_Run p l e R s m args below meth c H locs cells slots mc ms (F0 m pc ls st0) rest (bw_Q G rv w1 (va_A wc H.size) av) (va_A wc H.size))
    (hI : bw_I G A H0 ws H locs) (he : ws.Perm (wc ++ rs)) (he' : (w1 ++ rs).Perm ws') (hf : w1.map Prod.fst = wc.map Prod.fst) (hst : rv.toList ++ rest = st1)
    (kk : ∀ (H1 : Heap) (locs1 : List Loc), bw_I G A H0 ws' H1 locs1 → W p l e R s m args below meth c H1 locs1 (cells + mc) (slots + ms) Q (F0 m (pc + 3) ls st1)) : W p l e R s m args below meth c H locs cells slots Q (F0 m pc ls st0) := by
  intro T hT X
  obtain ⟨v, st₀, t, T', L, h0, X', hL, e1, e2, ⟨hv, hP1, hz, hk⟩, st⟩ := hr T hT X
  have hv : v = rv := by injection hv
  subst hv
  rw [h0] at hz hk
  have hsub := bw_sub hI he
  have hS := hI.2.2.1
  have hS1 : va_S A H0 T'.heap (locs ++ L) := ⟨Nat.le_trans hS.1 (by rw [e1]; exact hz), fun q h1 h2 => by rw [e1, hk q (Nat.lt_of_lt_of_le h1 hS.1) (fun z => h2 (hsub q z))]; exact hS.2.1 q h1 h2, fun q hq => by
    rcases List.mem_append.mp hq with h | h
    · exact hS.2.2 q h
    · exact hsub _ (hL q h)⟩
  have hI1 : bw_I G A H0 ws' T'.heap (locs ++ L) := bw_join hI he he' hf (fun q h1 h2 => by rw [e1]; exact hk q h1 h2) (by rw [e1]; exact hP1) hS1
  obtain ⟨t2, a1, b1⟩ := kk T'.heap (locs ++ L) hI1 T' rfl X'
  subst hst
  exact ⟨t2, st t2 a1, b1⟩
theorem bw_pre {av : List Value} {wc rs : va_W} (hK : va_K G vwCl (bw_tys cy) s) (hZ : bw_Z g A s s.heap) (hI : bw_I G A s.heap ws H locs) (he : ws.Perm (wc ++ rs)) : ∀ U : State, U.heap = H → s.WarmedH U.vm → va_Pc av (bw_B G cy g wc H.size) av.toArray U := by
  intro U hU hW
  have hq := bw_perm hI he
  refine ⟨rfl, by rw [hU], ?_, va_K.moved hW.alike hK, ?_, ?_⟩
  · rw [hU]
    exact bw_P_iff.mpr fun q h => bw_P_iff.mp hq.1 q (List.mem_append_left _ h)
  · have hd := bw_D_iff.mp hq.2.1
    refine bw_D_iff.mpr ⟨?_, fun _ _ => trivial⟩
    have := hd.1
    rw [List.map_append, List.nodup_append] at this
    exact this.1
  · rw [hU]
    exact hZ.to hI.2.2.1.2.1 hW (bw_sub hI he)
theorem bw_callV {y : MethodName} {bytes : ByteArray} {maxL n index f loc : Nat} {ret : Option FieldType} {C : String} {b : Addr} {As : List Value} {rv : Option Value} {wc rs w1 ws' : va_W} {st1 : List Value} (S : CallFix p m c cc nL s args (x0 :: bw_L) own) (hK : va_K G vwCl (bw_tys cy) s) (hZ : bw_Z g A s s.heap) (hI : bw_I G A s.heap ws H locs)
    (hM : bw_M l y bytes maxL ret f loc G cy g (.ref b :: As) wc rv w1) (hY : bw_Y y bytes maxL ret n) (hV : Cond.instanceMethod y ∈ bw_L ∧ Cond.selects C y y ∈ bw_L) (hl : Cond.methodLink own index y ∈ bw_L) (hR : f + 1 ≤ R.frames ∧ 8 + (maxL + 11) + loc ≤ R.locals)
    {q0 ci : Nat} {fs : List Value} {r : vw_C} (hr1 : wc[q0]? = some (b, .inr (ci, fs))) (hr2 : vwCl[ci]? = some r) (hr3 : r.1 = C)
    (he : ws.Perm (wc ++ rs)) (he' : (w1 ++ rs).Perm ws') (hf : w1.map Prod.fst = wc.map Prod.fst) (hn : As.length = n) (hsize : ls.size = nL) {st : List Value} (hst0 : As.reverse ++ .ref b :: rest = st) (hst : rv.toList ++ rest = st1) (hW : (rest.map fun v => v.category).sum ≤ 8) (hdg : decode cc pc = .ok (.invokevirtual index, 3)) (hcs : cells ≤ R.cells ∧ slots ≤ R.slots)
    (kk : ∀ (H1 : Heap) (locs1 : List Loc), bw_I G A s.heap ws' H1 locs1 → W p l e R s m args below meth c H1 locs1 cells slots Q (F0 m (pc + 3) ls st1)) : W p l e R s m args below meth c H locs cells slots Q (F0 m pc ls st) := by
  subst hst0
  have hts := S.2.2.2.2
  have hq := bw_perm hI he
  have hPw : va_P G vwCl wc H := bw_P_iff.mpr fun q h => bw_P_iff.mp hq.1 q (List.mem_append_left _ h)
  have hrecv := va_recv hK hPw hr2 hr1
  rw [hr3] at hrecv
  exact bw_go (mc := 0) (ms := 0) (va_runV (As := As) (rest := rest) S (hM H.size) (bw_cwV (rm := bw_rm f loc) hts hY hV hl hR rfl rfl) ⟨bw_blind, hrecv, bw_pre hK hZ hI he⟩ rfl hn hsize rfl (lv_room hW) hdg hcs) hI he he' hf hst kk
theorem bw_callS {y : MethodName} {bytes : ByteArray} {maxL n index f loc : Nat} {ret : Option FieldType} {As : List Value} {rv : Option Value} {wc rs w1 ws' : va_W} {st1 : List Value} (S : CallFix p m c cc nL s args (x0 :: bw_L) own) (hK : va_K G vwCl (bw_tys cy) s) (hZ : bw_Z g A s s.heap) (hI : bw_I G A s.heap ws H locs)
    (hM : bw_M l y bytes maxL ret f loc G cy g As wc rv w1) (hY : bw_Y y bytes maxL ret n) (hV : Cond.static y ∈ bw_L) (hl : Cond.methodLink own index y ∈ bw_L) (hR : f + 1 ≤ R.frames ∧ 8 + (maxL + 11) + loc ≤ R.locals)
    (he : ws.Perm (wc ++ rs)) (he' : (w1 ++ rs).Perm ws') (hf : w1.map Prod.fst = wc.map Prod.fst) (hn : As.length = n) (hsize : ls.size = nL) {st : List Value} (hst0 : As.reverse ++ rest = st) (hst : rv.toList ++ rest = st1) (hW : (rest.map fun v => v.category).sum ≤ 8) (hdg : decode cc pc = .ok (.invokestatic index, 3)) (hcs : cells ≤ R.cells ∧ slots ≤ R.slots)
    (kk : ∀ (H1 : Heap) (locs1 : List Loc), bw_I G A s.heap ws' H1 locs1 → W p l e R s m args below meth c H1 locs1 cells slots Q (F0 m (pc + 3) ls st1)) : W p l e R s m args below meth c H locs cells slots Q (F0 m pc ls st) := by
  subst hst0
  have hts := S.2.2.2.2
  exact bw_go (mc := 0) (ms := 0) (va_runS (As := As) (rest := rest) S (hM H.size) (bw_cwS (rm := bw_rm f loc) hts hY hV hl hR rfl rfl) ⟨bw_blind, bw_pre hK hZ hI he⟩ rfl hn hsize rfl (lv_room hW) hdg hcs) hI he he' hf hst kk
/-- a static method that touches no world -/
theorem bw_callP {y : MethodName} {bytes : ByteArray} {maxL n index f loc : Nat} {ret : Option FieldType} {As : List Value} {rv : Option Value} {st1 : List Value} (S : CallFix p m c cc nL s args (x0 :: bw_L) own) (hK : va_K G vwCl (bw_tys cy) s) (hZ : bw_Z g A s s.heap) (hI : bw_I G A s.heap ws H locs)
    (hM : bw_M l y bytes maxL ret f loc G cy g As [] rv []) (hY : bw_Y y bytes maxL ret n) (hV : Cond.static y ∈ bw_L) (hl : Cond.methodLink own index y ∈ bw_L) (hR : f + 1 ≤ R.frames ∧ 8 + (maxL + 11) + loc ≤ R.locals)
    (hn : As.length = n) (hsize : ls.size = nL) {st : List Value} (hst0 : As.reverse ++ rest = st) (hst : rv.toList ++ rest = st1) (hW : (rest.map fun v => v.category).sum ≤ 8) (hdg : decode cc pc = .ok (.invokestatic index, 3)) (hcs : cells ≤ R.cells ∧ slots ≤ R.slots)
    (kk : ∀ (H1 : Heap) (locs1 : List Loc), bw_I G A s.heap ws H1 locs1 → W p l e R s m args below meth c H1 locs1 cells slots Q (F0 m (pc + 3) ls st1)) : W p l e R s m args below meth c H locs cells slots Q (F0 m pc ls st) :=
  bw_callS S hK hZ hI hM hY hV hl hR (bw_p0 ws) (List.Perm.refl _) rfl hn hsize hst0 hst hW hdg hcs kk
/-! ends -/
theorem bw_iret {σ : Type} {v : Int32} {d : σ} {rr : Int32 × σ} {ty : FieldType} (S : CallFix p m c cc nL s args (x0 :: bw_L) own) (hr : meth.sig.returnType = some ty) (hlocks : meth.locks = false) (h : some (v, d) = some rr) (wf : σ → va_W) (hI : bw_I G A s.heap (wf d) H locs) (hn : narrow ty (.int v) = .int v) (hdg : decode cc pc = .ok (.ireturn, 1)) (hQ : MQ below (bw_Q G (some (.int rr.1)) (wf rr.2) A) args s 0 0 A = Q) :
    W p l e R s m args below meth c H locs 0 0 Q (F0 m pc ls [.int v]) := by
  subst hQ
  cases h
  exact W.zret S.1 S.2.1 hr hn (fun t ht hW => ⟨rfl, by rw [ht]; exact hI.1, hI.2.2.1.F ht⟩) hI.2.2.1.2.2 hdg hlocks
theorem bw_iretP {v rr : Int32} {ty : FieldType} (S : CallFix p m c cc nL s args (x0 :: bw_L) own) (hr : meth.sig.returnType = some ty) (hlocks : meth.locks = false) (h : some v = some rr) (hI : bw_I G A s.heap ws H locs) (hn : narrow ty (.int v) = .int v) (hdg : decode cc pc = .ok (.ireturn, 1)) (hQ : MQ below (bw_Q G (some (.int rr)) ws A) args s 0 0 A = Q) :
    W p l e R s m args below meth c H locs 0 0 Q (F0 m pc ls [.int v]) := by
  subst hQ
  cases h
  exact W.zret S.1 S.2.1 hr hn (fun t ht hW => ⟨rfl, by rw [ht]; exact hI.1, hI.2.2.1.F ht⟩) hI.2.2.1.2.2 hdg hlocks
theorem bw_vret {σ : Type} {d rr : σ} (S : CallFix p m c cc nL s args (x0 :: bw_L) own) (hr : meth.sig.returnType = none) (hlocks : meth.locks = false) (h : some d = some rr) (wf : σ → va_W) (hI : bw_I G A s.heap (wf d) H locs) (hdg : decode cc pc = .ok (.return_, 1)) (hQ : MQ below (bw_Q G none (wf rr) A) args s 0 0 A = Q) :
    W p l e R s m args below meth c H locs 0 0 Q (F0 m pc ls []) := by
  subst hQ
  cases h
  exact W.vret S.1 S.2.1 hr (fun t ht hW => ⟨rfl, by rw [ht]; exact hI.1, hI.2.2.1.F ht⟩) hI.2.2.1.2.2 hdg hlocks
theorem bw_lret {σ : Type} {v : Int64} {d : σ} {rr : Int64 × σ} (S : CallFix p m c cc nL s args (x0 :: bw_L) own) (hr : meth.sig.returnType = some .long) (hlocks : meth.locks = false) (h : some (v, d) = some rr) (wf : σ → va_W) (hI : bw_I G A s.heap (wf d) H locs) (hdg : decode cc pc = .ok (.lreturn, 1)) (hQ : MQ below (bw_Q G (some (.long rr.1)) (wf rr.2) A) args s 0 0 A = Q) :
    W p l e R s m args below meth c H locs 0 0 Q (F0 m pc ls [.long v]) := by
  subst hQ
  cases h
  exact W.lret S.1 S.2.1 hr (fun t ht hW => ⟨rfl, by rw [ht]; exact hI.1, hI.2.2.1.F ht⟩) hI.2.2.1.2.2 hdg hlocks
theorem bw_lretP {v rr : Int64} (S : CallFix p m c cc nL s args (x0 :: bw_L) own) (hr : meth.sig.returnType = some .long) (hlocks : meth.locks = false) (h : some v = some rr) (hI : bw_I G A s.heap ws H locs) (hdg : decode cc pc = .ok (.lreturn, 1)) (hQ : MQ below (bw_Q G (some (.long rr)) ws A) args s 0 0 A = Q) :
    W p l e R s m args below meth c H locs 0 0 Q (F0 m pc ls [.long v]) := by
  subst hQ
  cases h
  exact W.lret S.1 S.2.1 hr (fun t ht hW => ⟨rfl, by rw [ht]; exact hI.1, hI.2.2.1.F ht⟩) hI.2.2.1.2.2 hdg hlocks
theorem bw_dret {σ : Type} {v : UInt64} {d : σ} {rr : UInt64 × σ} (S : CallFix p m c cc nL s args (x0 :: bw_L) own) (hr : meth.sig.returnType = some .double) (hlocks : meth.locks = false) (h : some (v, d) = some rr) (wf : σ → va_W) (hI : bw_I G A s.heap (wf d) H locs) (hdg : decode cc pc = .ok (.dreturn, 1)) (hQ : MQ below (bw_Q G (some (.double rr.1)) (wf rr.2) A) args s 0 0 A = Q) :
    W p l e R s m args below meth c H locs 0 0 Q (F0 m pc ls [.double v]) := by
  subst hQ
  cases h
  exact W.dret S.1 S.2.1 hr (fun t ht hW => ⟨rfl, by rw [ht]; exact hI.1, hI.2.2.1.F ht⟩) hI.2.2.1.2.2 hdg hlocks
theorem bw_dretP {v rr : UInt64} (S : CallFix p m c cc nL s args (x0 :: bw_L) own) (hr : meth.sig.returnType = some .double) (hlocks : meth.locks = false) (h : some v = some rr) (hI : bw_I G A s.heap ws H locs) (hdg : decode cc pc = .ok (.dreturn, 1)) (hQ : MQ below (bw_Q G (some (.double rr)) ws A) args s 0 0 A = Q) :
    W p l e R s m args below meth c H locs 0 0 Q (F0 m pc ls [.double v]) := by
  subst hQ
  cases h
  exact W.dret S.1 S.2.1 hr (fun t ht hW => ⟨rfl, by rw [ht]; exact hI.1, hI.2.2.1.F ht⟩) hI.2.2.1.2.2 hdg hlocks
end BWR
/-- a contract out of a walk of the body -/
theorem bw_ofW {l : Launch} {y : MethodName} {cc : ByteArray} {n : Nat} {r : Option FieldType} {f loc : Nat} {G : va_G} {cy : Nat → ClassId} {g : Nat} {av : List Value} {ws : va_W} {rv : Option Value} {ws' : va_W} (hy : plainName y.cls = true) (own : String) (ho : y.cls = own) (hlen : (lg_sl av).length ≤ n)
    (body : ∀ (p : Program) (e : Env) (s : State) (m : MethodId) (below : List Frame) (meth : Method) (c : Code) (ls : Array Slot), CallFix p m c cc n s av.toArray (Cond.code y cc n r :: bw_L) own → meth.sig.returnType = r → meth.locks = false → va_K G vwCl (bw_tys cy) s → bw_Z g (va_A ws s.heap.size) s s.heap → bw_I G (va_A ws s.heap.size) s.heap ws s.heap [] → lv_has ls n (lv_args 0 av) →
      W p l e (bw_rm f loc) s m av.toArray below meth c s.heap [] 0 0 (MQ below (bw_Q G rv ws' (va_A ws s.heap.size)) av.toArray s 0 0 (va_A ws s.heap.size)) (F0 m 0 ls [])) : bw_M l y cc n r f loc G cy g av ws rv ws' := by
  intro sz
  refine Met.ofW (cc := cc) (maxL := n) (ret := r) hy rfl ?_
  intro p e s m args below meth c s₁ B hml hv
  obtain ⟨rfl, hsz, hP, hK, hD0, hZ⟩ := hv
  have hts := atoms_spec (ws := bw_ws y cc n r) B.pre
  have hown : s.vm.findClass own = some m.cls := by rw [← ho]; exact findClass_of_methodNamed B.named
  subst hsz
  rw [lg_entry_eq]
  exact body p e s m below meth c _ ⟨B.exec, B.bytes, hml, hown, hts⟩ B.returns B.notSynchronized hK hZ ⟨hP, hD0.self, va_S.rf, fun q h => Or.inr h⟩ (lv_entry av hlen)
