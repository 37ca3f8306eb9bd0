/-! ===== methods of BufferLoans that return or throw ===== -/
abbrev bw_rmx (f loc k : Nat) : Room := { frames := f, cells := k, slots := 6 * k, locals := loc }
def bw_QX (G : va_G) (code : Nat) (rv : Option Value) (ws' : va_W) (A : Nat → Prop) : Array Value → State → Outcome → State → Prop := fun a st o t => code = 0 ∧ bw_Q G rv ws' A a st o t
def bw_XX (G : va_G) (code : Nat) (ws' : va_W) (A : Nat → Prop) : String → State → State → Prop := fun E st t => code ≠ 0 ∧ E = bw_exn code ∧ va_P G vwCl ws' t.heap ∧ va_F A st t
/-- the contract of a method that returns (code 0) or throws (1, 2, 3: bw_exn) -/
def bw_MX (l : Launch) (y : MethodName) (cc : ByteArray) (n : Nat) (r : Option FieldType) (f loc k : Nat) (G : va_G) (cy : Nat → ClassId) (g : Nat) (av : List Value) (ws : va_W) (code : Nat) (rv : Option Value) (ws' : va_W) : Prop :=
  ∀ sz : Nat, vx_Met l y (bw_ws y cc n r) (bw_rmx f loc k) (va_Pc av (bw_B G cy g ws sz)) (bw_QX G code rv ws' (va_A ws sz)) (bw_XX G code ws' (va_A ws sz)) k (6 * k) (va_A ws sz)
def bw_dcw : List Cond := bw_dcl.map Cond.declares
def bw_chain : List String := ["java/lang/RuntimeException", "java/lang/Exception"]
section BWX
variable {p : Program} {l : Launch} {e : Env} {R : Room} {s : State} {m : MethodId} {args : Array Value} {below : List Frame} {meth : Method} {c : Code} {H : Heap} {locs : List Loc} {cells slots : Nat} {Q : State → Prop}
variable {cc : ByteArray} {nL pc : Nat} {ls : Array Slot} {rest : List Value} {G : va_G} {cy : Nat → ClassId} {A : Nat → Prop} {ws : va_W} {own : String} {x0 : Cond} {a g code k : Nat}
theorem bw_goX {H0 : Heap} {rv : Option Value} {wc rs w1 ws' : va_W} {st0 st1 : List Value} {mc ms : Nat} {av : Array Value} (hr : vx_Run p l e R s m args below meth c H locs cells slots mc ms (F0 m pc ls st0) rest (bw_QX G code rv w1 (va_A wc H.size) av) (bw_XX G code w1 (va_A wc H.size)) (va_A wc H.size))
    (hI : bw_I G A H0 ws H locs) (he : ws.Perm (wc ++ rs)) (he' : (w1 ++ rs).Perm ws') (hf : w1.map Prod.fst = wc.map Prod.fst) (hst : rv.toList ++ rest = st1)
    (kx : code ≠ 0 → ∀ (q : Addr) (ce : Cell) (H1 : Heap) (locs1 : List Loc), bw_I G A H0 ws' H1 locs1 → H1[q]? = some ce → ce.vm = .none → s.vm.findClass (bw_exn code) = some ce.cls → vx_W p l e R s m args below meth c H1 locs1 (cells + mc) (slots + ms) Q (F0 m pc ls rest) q)
    (kk : code = 0 → ∀ (H1 : Heap) (locs1 : List Loc), bw_I G A H0 ws' H1 locs1 → W p l e R s m args below meth c H1 locs1 (cells + mc) (slots + ms) Q (F0 m (pc + 3) ls st1)) : W p l e R s m args below meth c H locs cells slots Q (F0 m pc ls st0) := by
  intro T hT X
  have hsub := bw_sub hI he
  have hS := hI.2.2.1
  have key : ∀ (st₀ t T' : State) (L : List Loc), st₀.heap = H → (∀ q ∈ L, va_A wc H.size q.base) → T'.heap = t.heap → va_P G vwCl w1 t.heap → va_F (va_A wc H.size) st₀ t → bw_I G A H0 ws' T'.heap (locs ++ L) := by
    intro st₀ t T' L h0 hL e1 hP1 hF
    obtain ⟨hz, hk⟩ := hF
    rw [h0] at hz hk
    have hS1 : va_S A H0 T'.heap (locs ++ L) := ⟨Nat.le_trans hS.1 (by rw [e1]; exact hz), fun q h1 h2 => by rw [e1, hk q (Nat.lt_of_lt_of_le h1 hS.1) (fun z => h2 (hsub q z))]; exact hS.2.1 q h1 h2, fun q hq => by
      rcases List.mem_append.mp hq with h | h
      · exact hS.2.2 q h
      · exact hsub _ (hL q h)⟩
    exact bw_join hI he he' hf (fun q h1 h2 => by rw [e1]; exact hk q h1 h2) (by rw [e1]; exact hP1) hS1
  rcases hr T hT X with ⟨v, st₀, t, T', L, h0, X', hL, e1, e2, ⟨hc0, hv, hP1, hF⟩, st⟩ | ⟨q, st₀, t, T', L, E, ce, h0, X', hL, e1, e2, ⟨hc0, hE, hP1, hF⟩, hce, hcv, hcl, st⟩
  · have hv : v = rv := by injection hv
    subst hv
    obtain ⟨t2, a1, b1⟩ := kk hc0 T'.heap (locs ++ L) (key st₀ t T' L h0 hL e1 hP1 hF) T' rfl X'
    subst hst
    exact ⟨t2, st t2 a1, b1⟩
  · subst hE
    obtain ⟨t2, a1, b1⟩ := kx hc0 q ce T'.heap (locs ++ L) (key st₀ t T' L h0 hL e1 hP1 hF) (by rw [e1]; exact hce) hcv hcl T' rfl X'
    exact ⟨t2, st.trans a1, b1⟩
theorem bw_callVX {y : MethodName} {bytes : ByteArray} {maxL n index f loc : Nat} {ret : Option FieldType} {C : String} {b : Addr} {As : List Value} {rv : Option Value} {wc rs w1 ws' : va_W} {st1 : List Value} (S : CallFix p m c cc nL s args (x0 :: bw_L) own) (hK : va_K G vwCl (bw_tys cy) s) (hZ : bw_Z g A s s.heap) (hI : bw_I G A s.heap ws H locs)
    (hM : bw_MX l y bytes maxL ret f loc k G cy g (.ref b :: As) wc code rv w1) (hY : bw_Y y bytes maxL ret n) (hV : Cond.instanceMethod y ∈ bw_L ∧ Cond.selects C y y ∈ bw_L) (hl : Cond.methodLink own index y ∈ bw_L) (hR : f + 1 ≤ R.frames ∧ 8 + (maxL + 11) + loc ≤ R.locals)
    {q0 ci : Nat} {fs : List Value} {r : vw_C} (hr1 : wc[q0]? = some (b, .inr (ci, fs))) (hr2 : vwCl[ci]? = some r) (hr3 : r.1 = C)
    (he : ws.Perm (wc ++ rs)) (he' : (w1 ++ rs).Perm ws') (hf : w1.map Prod.fst = wc.map Prod.fst) (hn : As.length = n) (hsize : ls.size = nL) {st : List Value} (hst0 : As.reverse ++ .ref b :: rest = st) (hst : rv.toList ++ rest = st1) (hW : (rest.map fun v => v.category).sum ≤ 8) (hdg : decode cc pc = .ok (.invokevirtual index, 3)) (hcs : cells + k ≤ R.cells ∧ slots + 6 * k ≤ R.slots)
    (kx : code ≠ 0 → ∀ (q : Addr) (ce : Cell) (H1 : Heap) (locs1 : List Loc), bw_I G A s.heap ws' H1 locs1 → H1[q]? = some ce → ce.vm = .none → s.vm.findClass (bw_exn code) = some ce.cls → vx_W p l e R s m args below meth c H1 locs1 (cells + k) (slots + 6 * k) Q (F0 m pc ls rest) q)
    (kk : code = 0 → ∀ (H1 : Heap) (locs1 : List Loc), bw_I G A s.heap ws' H1 locs1 → W p l e R s m args below meth c H1 locs1 (cells + k) (slots + 6 * k) Q (F0 m (pc + 3) ls st1)) : W p l e R s m args below meth c H locs cells slots Q (F0 m pc ls st) := by
  subst hst0
  have hts := S.2.2.2.2
  have hq := bw_perm hI he
  have hPw : va_P G vwCl wc H := bw_P_iff.mpr fun q h => bw_P_iff.mp hq.1 q (List.mem_append_left _ h)
  have hrecv := va_recv hK hPw hr2 hr1
  rw [hr3] at hrecv
  exact bw_goX (vx_runV (As := As) (rest := rest) S (hM H.size) (bw_cwV (rm := bw_rmx f loc k) hts hY hV hl hR rfl rfl) ⟨bw_blind, hrecv, bw_pre hK hZ hI he⟩ rfl hn hsize rfl (lv_room hW) hdg hcs) hI he he' hf hst kx kk
theorem bw_callPX {y : MethodName} {bytes : ByteArray} {maxL n index f loc : Nat} {ret : Option FieldType} {As : List Value} {rv : Option Value} {st1 : List Value} (S : CallFix p m c cc nL s args (x0 :: bw_L) own) (hK : va_K G vwCl (bw_tys cy) s) (hZ : bw_Z g A s s.heap) (hI : bw_I G A s.heap ws H locs)
    (hM : bw_MX l y bytes maxL ret f loc k G cy g As [] code rv []) (hY : bw_Y y bytes maxL ret n) (hV : Cond.static y ∈ bw_L) (hl : Cond.methodLink own index y ∈ bw_L) (hR : f + 1 ≤ R.frames ∧ 8 + (maxL + 11) + loc ≤ R.locals)
    (hn : As.length = n) (hsize : ls.size = nL) {st : List Value} (hst0 : As.reverse ++ rest = st) (hst : rv.toList ++ rest = st1) (hW : (rest.map fun v => v.category).sum ≤ 8) (hdg : decode cc pc = .ok (.invokestatic index, 3)) (hcs : cells + k ≤ R.cells ∧ slots + 6 * k ≤ R.slots)
    (kx : code ≠ 0 → ∀ (q : Addr) (ce : Cell) (H1 : Heap) (locs1 : List Loc), bw_I G A s.heap ws H1 locs1 → H1[q]? = some ce → ce.vm = .none → s.vm.findClass (bw_exn code) = some ce.cls → vx_W p l e R s m args below meth c H1 locs1 (cells + k) (slots + 6 * k) Q (F0 m pc ls rest) q)
    (kk : code = 0 → ∀ (H1 : Heap) (locs1 : List Loc), bw_I G A s.heap ws H1 locs1 → W p l e R s m args below meth c H1 locs1 (cells + k) (slots + 6 * k) Q (F0 m (pc + 3) ls st1)) : W p l e R s m args below meth c H locs cells slots Q (F0 m pc ls st) := by
  subst hst0
  have hts := S.2.2.2.2
  exact bw_goX (vx_runS (As := As) (rest := rest) S (hM H.size) (bw_cwS (rm := bw_rmx f loc k) hts hY hV hl hR rfl rfl) ⟨bw_blind, bw_pre hK hZ hI (bw_p0 ws)⟩ rfl hn hsize rfl (lv_room hW) hdg hcs) hI (bw_p0 ws) (List.Perm.refl _) rfl hst kx kk
/-- a throw that isn't caught here -/
theorem bw_outX {σ : Type} {dd rr : σ} {k5 : Nat} (hno : ∀ x ∈ c.exceptionTable.toList, False) (hlocks : meth.locks = false) (h5 : k5 ≠ 0) (h : some (k5, dd) = some (code, rr)) (wf : σ → va_W) (rvf : σ → Option Value) {q : Addr} {ce : Cell} (hI : bw_I G A s.heap (wf dd) H locs) (hcell : H[q]? = some ce) (hv : ce.vm = .none) (hcl : s.vm.findClass (bw_exn k5) = some ce.cls) (hc : cells ≤ k) (hs : slots ≤ 6 * k)
    (hQ : vx_MQ below (bw_QX G code (rvf rr) (wf rr) A) (bw_XX G code (wf rr) A) args s k (6 * k) A = Q) : vx_W p l e R s m args below meth c H locs cells slots Q (F0 m pc ls rest) q := by
  cases h
  subst hQ
  exact vx_out (fun x hx => (hno x hx).elim) hlocks hcell hv hcl (fun t ht _ => ⟨h5, rfl, by rw [ht]; exact hI.1, hI.2.2.1.F ht⟩) hI.2.2.1.2.2 hc hs
theorem bw_outXP {k5 : Nat} (hno : ∀ x ∈ c.exceptionTable.toList, False) (hlocks : meth.locks = false) (h5 : k5 ≠ 0) (h : some k5 = some code) {q : Addr} {ce : Cell} (hI : bw_I G A s.heap ws H locs) (hcell : H[q]? = some ce) (hv : ce.vm = .none) (hcl : s.vm.findClass (bw_exn k5) = some ce.cls) (hc : cells ≤ k) (hs : slots ≤ 6 * k)
    (hQ : vx_MQ below (bw_QX G code none ws A) (bw_XX G code ws A) args s k (6 * k) A = Q) : vx_W p l e R s m args below meth c H locs cells slots Q (F0 m pc ls rest) q :=
  bw_outX (σ := Unit) (dd := ()) (rr := ()) hno hlocks h5 (by cases h; rfl) (fun _ => ws) (fun _ => none) hI hcell hv hcl hc hs hQ
theorem bw_iretX {σ : Type} {v : Int32} {dd rr : σ} {ty : FieldType} (S : CallFix p m c cc nL s args (x0 :: bw_L) own) (hr : meth.sig.returnType = some ty) (hlocks : meth.locks = false) (h : some (0, dd) = some (code, rr)) (wf : σ → va_W) (rvf : σ → Option Value) (hv : rvf dd = some (.int v)) (hI : bw_I G A s.heap (wf dd) H locs) (hn : narrow ty (.int v) = .int v) (hc : cells ≤ k) (hs : slots ≤ 6 * k) (hdg : decode cc pc = .ok (.ireturn, 1))
    (hQ : vx_MQ below (bw_QX G code (rvf rr) (wf rr) A) (bw_XX G code (wf rr) A) args s k (6 * k) A = Q) : W p l e R s m args below meth c H locs cells slots Q (F0 m pc ls [.int v]) := by
  cases h
  subst hQ
  refine W.widen hc hs (vx_ret ?_)
  exact W.zret S.1 S.2.1 hr hn (fun t ht hW => ⟨rfl, by rw [hv], by rw [ht]; exact hI.1, hI.2.2.1.F ht⟩) hI.2.2.1.2.2 hdg hlocks
theorem bw_vretX (S : CallFix p m c cc nL s args (x0 :: bw_L) own) (hr : meth.sig.returnType = none) (hlocks : meth.locks = false) (h : some 0 = some code) (hI : bw_I G A s.heap ws H locs) (hc : cells ≤ k) (hs : slots ≤ 6 * k) (hdg : decode cc pc = .ok (.return_, 1))
    (hQ : vx_MQ below (bw_QX G code none ws A) (bw_XX G code ws A) args s k (6 * k) A = Q) : W p l e R s m args below meth c H locs cells slots Q (F0 m pc ls []) := by
  cases h
  subst hQ
  refine W.widen hc hs (vx_ret ?_)
  exact W.vret S.1 S.2.1 hr (fun t ht hW => ⟨rfl, rfl, by rw [ht]; exact hI.1, hI.2.2.1.F ht⟩) hI.2.2.1.2.2 hdg hlocks
/-- new X(text), thrown at once -/
theorem bw_thr {σ : Type} {dd rr : σ} {k5 ik is ic : Nat} {text : String} (S : CallFix p m c cc nL s args (x0 :: bw_L) RX5) (hsz : ls.size = nL) (hZ : bw_Z g A s s.heap) (hfl : l.stackTraces = false) (hno : ∀ x ∈ c.exceptionTable.toList, False) (hlocks : meth.locks = false) (h5 : 1 ≤ k5 ∧ k5 ≤ 3) (h : some (k5, dd) = some (code, rr)) (wf : σ → va_W) (rvf : σ → Option Value) (hI : bw_I G A s.heap (wf dd) H locs)
    (hfit : Bundle.fit (bw_exn k5) = true) (hk : Cond.classLink RX5 ik (bw_exn k5) ∈ bw_L) (hini : Cond.initialized (bw_exn k5) ∈ bw_L) (hstr : (is, text) ∈ bw_strs) (hat : ∀ w ∈ vx_atS RX5 ic (bw_exn k5) bw_chain, w = .castable (bw_exn k5) (bw_exn k5) ∨ w ∈ bw_dcw ∨ w ∈ bw_L)
    (d0 : decode cc pc = .ok (.new ik, 3)) (d3 : decode cc (pc + 3) = .ok (.dup, 1)) (d4 : decode cc (pc + 4) = .ok (.ldc is, 2)) (d6 : decode cc (pc + 6) = .ok (.invokespecial ic, 3)) (d9 : decode cc (pc + 9) = .ok (.athrow, 1)) (hRf : 6 ≤ R.frames) (hRl : (rest.map fun v => v.category).sum + 82 ≤ R.locals) (hRc : cells + 1 ≤ R.cells ∧ slots + 6 ≤ R.slots) (hc : cells + 1 ≤ k) (hs : slots + 6 ≤ 6 * k)
    (hQ : vx_MQ below (bw_QX G code (rvf rr) (wf rr) A) (bw_XX G code (wf rr) A) args s k (6 * k) A = Q) : W p l e R s m args below meth c H locs cells slots Q (F0 m pc ls rest) := by
  have e1 : code = k5 := by cases h; rfl
  have e2 : rr = dd := by cases h; rfl
  rw [e1, e2] at hQ
  subst hQ
  obtain ⟨hx, hb, hml, hown, hts⟩ := S
  obtain ⟨sa, hsa⟩ := hZ.2.2.2.2.2.2.1 _ hstr
  have hcas : (Cond.castable (bw_exn k5) (bw_exn k5)).before args s = true := va_Nw.use (A := args) rfl (hZ.2.2.2.2.1 k5 h5.1 h5.2)
  have hot : ∀ w ∈ bw_L, vx_ot w = true := fun w hw => by
    unfold vx_ot
    rw [(List.mem_filter.mp hw).2, Bool.or_true]
  refine vx_throwS (names := bw_chain) (ic := ic) (mc := k) (ms := 6 * k) hx hb hfl hown hfit (by decide +kernel) (hts _ (List.mem_cons_of_mem _ hk)) (hts _ (List.mem_cons_of_mem _ hini)) hsa (fun w hw => ?_) (fun w hw => ?_) hZ.2.2.1 hZ.2.2.2.1 hI.2.2.1 (hsz.trans hml.symm) d0 d3 d4 d6 d9 (fun x hx => (hno x hx).elim) (Nat.lt_of_lt_of_le (by decide) hRf) (by have e9 : bw_chain.length = 2 := rfl; rw [e9]; omega) hRc.1 hRc.2 hlocks (fun t _ hz hq => ⟨by omega, rfl, ?_, ?_⟩) hI.2.2.1.2.2 hc hs
  · rcases hat w hw with rfl | h | h
    · exact hcas
    · obtain ⟨x, hx1, rfl⟩ := List.mem_map.mp h
      exact va_Nw.use (A := args) rfl (hZ.2.2.2.2.2.2.2.1 x hx1)
    · exact hts _ (List.mem_cons_of_mem _ h)
  · rcases List.mem_cons.mp hw with rfl | hw
    · exact hot _ hk
    · rcases List.mem_cons.mp hw with rfl | hw
      · exact hot _ hini
      · rcases hat w hw with rfl | h | h
        · rfl
        · obtain ⟨x, hx1, rfl⟩ := List.mem_map.mp h
          rfl
        · exact hot _ h
  · exact bw_P_iff.mpr fun q h => (bw_P_iff.mp hI.1 q h).kept (hq q.1 (bw_P_iff.mp hI.1 q h).lt)
  · exact ⟨Nat.le_trans hI.2.2.1.1 hz, fun q h1 h2 => (hq q (Nat.lt_of_lt_of_le h1 hI.2.2.1.1)).trans (hI.2.2.1.2.1 q h1 h2)⟩
/-- the same, the text by a wide index -/
theorem bw_thrW {σ : Type} {dd rr : σ} {k5 ik is ic : Nat} {text : String} (S : CallFix p m c cc nL s args (x0 :: bw_L) RX5) (hsz : ls.size = nL) (hZ : bw_Z g A s s.heap) (hfl : l.stackTraces = false) (hno : ∀ x ∈ c.exceptionTable.toList, False) (hlocks : meth.locks = false) (h5 : 1 ≤ k5 ∧ k5 ≤ 3) (h : some (k5, dd) = some (code, rr)) (wf : σ → va_W) (rvf : σ → Option Value) (hI : bw_I G A s.heap (wf dd) H locs)
    (hfit : Bundle.fit (bw_exn k5) = true) (hk : Cond.classLink RX5 ik (bw_exn k5) ∈ bw_L) (hini : Cond.initialized (bw_exn k5) ∈ bw_L) (hstr : (is, text) ∈ bw_strs) (hat : ∀ w ∈ vx_atS RX5 ic (bw_exn k5) bw_chain, w = .castable (bw_exn k5) (bw_exn k5) ∨ w ∈ bw_dcw ∨ w ∈ bw_L)
    (d0 : decode cc pc = .ok (.new ik, 3)) (d3 : decode cc (pc + 3) = .ok (.dup, 1)) (d4 : decode cc (pc + 4) = .ok (.ldc_w is, 3)) (d6 : decode cc (pc + 7) = .ok (.invokespecial ic, 3)) (d9 : decode cc (pc + 10) = .ok (.athrow, 1)) (hRf : 6 ≤ R.frames) (hRl : (rest.map fun v => v.category).sum + 82 ≤ R.locals) (hRc : cells + 1 ≤ R.cells ∧ slots + 6 ≤ R.slots) (hc : cells + 1 ≤ k) (hs : slots + 6 ≤ 6 * k)
    (hQ : vx_MQ below (bw_QX G code (rvf rr) (wf rr) A) (bw_XX G code (wf rr) A) args s k (6 * k) A = Q) : W p l e R s m args below meth c H locs cells slots Q (F0 m pc ls rest) := by
  have e1 : code = k5 := by cases h; rfl
  have e2 : rr = dd := by cases h; rfl
  rw [e1, e2] at hQ
  subst hQ
  obtain ⟨hx, hb, hml, hown, hts⟩ := S
  obtain ⟨sa, hsa⟩ := hZ.2.2.2.2.2.2.1 _ hstr
  have hcas : (Cond.castable (bw_exn k5) (bw_exn k5)).before args s = true := va_Nw.use (A := args) rfl (hZ.2.2.2.2.1 k5 h5.1 h5.2)
  have hot : ∀ w ∈ bw_L, vx_ot w = true := fun w hw => by
    unfold vx_ot
    rw [(List.mem_filter.mp hw).2, Bool.or_true]
  refine vx_throwSW (names := bw_chain) (ic := ic) (mc := k) (ms := 6 * k) hx hb hfl hown hfit (by decide +kernel) (hts _ (List.mem_cons_of_mem _ hk)) (hts _ (List.mem_cons_of_mem _ hini)) hsa (fun w hw => ?_) (fun w hw => ?_) hZ.2.2.1 hZ.2.2.2.1 hI.2.2.1 (hsz.trans hml.symm) d0 d3 d4 d6 d9 (fun x hx => (hno x hx).elim) (Nat.lt_of_lt_of_le (by decide) hRf) (by have e9 : bw_chain.length = 2 := rfl; rw [e9]; omega) hRc.1 hRc.2 hlocks (fun t _ hz hq => ⟨by omega, rfl, ?_, ?_⟩) hI.2.2.1.2.2 hc hs
  · rcases hat w hw with rfl | h | h
    · exact hcas
    · obtain ⟨x, hx1, rfl⟩ := List.mem_map.mp h
      exact va_Nw.use (A := args) rfl (hZ.2.2.2.2.2.2.2.1 x hx1)
    · exact hts _ (List.mem_cons_of_mem _ h)
  · rcases List.mem_cons.mp hw with rfl | hw
    · exact hot _ hk
    · rcases List.mem_cons.mp hw with rfl | hw
      · exact hot _ hini
      · rcases hat w hw with rfl | h | h
        · rfl
        · obtain ⟨x, hx1, rfl⟩ := List.mem_map.mp h
          rfl
        · exact hot _ h
  · exact bw_P_iff.mpr fun q h => (bw_P_iff.mp hI.1 q h).kept (hq q.1 (bw_P_iff.mp hI.1 q h).lt)
  · exact ⟨Nat.le_trans hI.2.2.1.1 hz, fun q h1 h2 => (hq q (Nat.lt_of_lt_of_le h1 hI.2.2.1.1)).trans (hI.2.2.1.2.1 q h1 h2)⟩
end BWX
theorem bw_ofWX {l : Launch} {y : MethodName} {cc : ByteArray} {n : Nat} {r : Option FieldType} {f loc k : Nat} {G : va_G} {cy : Nat → ClassId} {g : Nat} {av : List Value} {ws : va_W} {code : Nat} {rv : Option Value} {ws' : va_W} (hy : plainName y.cls = true) (own : String) (ho : y.cls = own) (hlen : (lg_sl av).length ≤ n)
    (body : ∀ (p : Program) (e : Env) (s : State) (m : MethodId) (below : List Frame) (meth : Method) (c : Code) (ls : Array Slot), CallFix p m c cc n s av.toArray (Cond.code y cc n r :: bw_L) own → meth.sig.returnType = r → meth.locks = false → (∀ x ∈ c.exceptionTable.toList, False) → va_K G vwCl (bw_tys cy) s → bw_Z g (va_A ws s.heap.size) s s.heap → bw_I G (va_A ws s.heap.size) s.heap ws s.heap [] → lv_has ls n (lv_args 0 av) →
      W p l e (bw_rmx f loc k) s m av.toArray below meth c s.heap [] 0 0 (vx_MQ below (bw_QX G code rv ws' (va_A ws s.heap.size)) (bw_XX G code ws' (va_A ws s.heap.size)) av.toArray s k (6 * k) (va_A ws s.heap.size)) (F0 m 0 ls [])) : bw_MX l y cc n r f loc k G cy g av ws code rv ws' := by
  intro sz
  refine vx_ofW (cc := cc) (maxL := n) (ret := r) hy rfl ?_
  intro p e s m args below meth c s₁ B hml hno hv
  obtain ⟨rfl, hsz, hP, hK, hD0, hZ⟩ := hv
  have hts := atoms_spec (ws := bw_ws y cc n r) B.pre
  have hown : s.vm.findClass own = some m.cls := by rw [← ho]; exact findClass_of_methodNamed B.named
  subst hsz
  rw [lg_entry_eq]
  exact body p e s m below meth c _ ⟨B.exec, B.bytes, hml, hown, hts⟩ B.returns B.notSynchronized hno hK hZ ⟨hP, hD0.self, va_S.rf, fun q h => Or.inr h⟩ (lv_entry av hlen)
theorem bw_traces {l : Launch} (h : l.flags = flags0) : l.stackTraces = false := by
  unfold Launch.stackTraces
  rw [h]
  decide +kernel
/-- go on where nothing was thrown -/
def bw_thn {α : Type} (k : Nat) (x y : Option α) : Option α := if k = 0 then y else x
theorem bw_thn_t {α : Type} {k : Nat} {x y : Option α} {r : α} (h : bw_thn k x y = some r) (h0 : k = 0) : y = some r := by
  unfold bw_thn at h
  rwa [if_pos h0] at h
theorem bw_thn_f {α : Type} {k : Nat} {x y : Option α} {r : α} (h : bw_thn k x y = some r) (h0 : k ≠ 0) : x = some r := by
  unfold bw_thn at h
  rwa [if_neg h0] at h
